/-! THE MATHEMATICS: sure, akin, strangers -/
theorem sWords_thr {P : Nat → Nat} {D E : zD} (h : ∀ a b, (a ≠ 102 ∨ b ≠ 0) → gI E a b = gI D a b) : sWords P E = sWords P D := by
  unfold sWords
  rw [show gI E 105 = gI D 105 from funext fun b => h 105 b (by omega), show gI E 109 = gI D 109 from funext fun b => h 109 b (by omega)]
  rw [show (fun i => gI E (163 + i) 0) = (fun i => gI D (163 + i) 0) from funext fun i => ?_, show (fun i => gI E (163 + i) 1) = (fun i => gI D (163 + i) 1) from funext fun i => ?_, show (fun k i => gI E (120 + k) i) = (fun k i => gI D (120 + k) i) from funext fun k => funext fun i => ?_]
  · by_cases e : i = 0
    · subst e; exact h _ _ (by omega)
    · by_cases g : 120 + k = 102
      · omega
      · exact h _ _ (by omega)
  · exact h _ _ (by omega)
  · by_cases g : 163 + i = 102
    · omega
    · exact h _ _ (by omega)
theorem t_words {D : zD} {P : Nat → Nat} (h : iv P D) : duo (fun D => (fn_X11_words D).map fun x => (x, D)) fn_X12_words D := by
  have e1 := c_rowWords h
  have e2 := r_wordsOf (h.thr 0)
  rw [sWords_thr (D := D) (fun a b g => by rcases g with g | g; exact gI_na g; exact gI_nb g)] at e2
  unfold duo fn_X12_words
  dsimp only
  simp (disch := omega) only [Option.bind_some, Option.map_some, zlet_eq, ↓reduceIte, L_2, L_3, L_4, L_5, L_6, L_7, L_8, L_9, L_10, L_12, L_13, L_20, L_24, L_25, L_26, L_27, L_30, L_32, L_33, L_34, L_40, L_48, L_57, L_58, L_60, L_64, L_90, L_93, L_97, L_99, L_100, L_122, L_144, L_255, L_364, L_480, L_500, L_800, L_1000, L_100000, L_4096, L_1023, L_1024, nLe, nLt, nEq, nI_1, nI_add, pk_mul, nSn, nDn, nCl, zck_nI, zdv_nI, nNeg, nLe0, n0Lt, nEq0, nM1, m1N, m1Lt, nLm1, zcb_0, zcb_1, i10, i01, nEq1, n1Eq, nLt1, gI_eq, gI_nb, gI_na, x_badF, x_badT1, x_badT2, bt_0, bt_1, bit1_u, Bool.true_eq_false, Bool.false_eq_true, eq_self, Int32.or_zero, if_pos, if_neg, e1, e2, zok_some]
  exact ⟨⟨P, h.thr 0⟩, trivial⟩
/-! sure -/
theorem pc_two {x : Int32} {a b : Nat} (ha : a < 32) (hb : b < 32) (hab : a ≠ b) (h1 : bt x a = true) (h2 : bt x b = true) : pc x ≠ 1 := by
  intro h
  have h3 := fb_ct_upd (bt x) false ha
  rw [h1] at h3
  unfold pc at h
  have h4 : fb_ct (fun k => if k = a then false else bt x k) 32 = 0 := by
    rw [if_pos rfl, if_neg (by decide)] at h3
    omega
  have h5 := fb_ct_zero.mp h4 b hb
  rw [if_neg (Ne.symm hab), h2] at h5
  cases h5
theorem pc_bit1 {i : Nat} (hi : i < 32) : pc (bit1 i) = 1 ∧ zff (bt (bit1 i)) 32 0 = i := by
  refine ⟨?_, zff_one (by omega) (by omega) (by rw [bt_bit1 i hi i hi]; simp) fun j _ hj => by rw [bt_bit1 i hi j (by omega)]; simp; omega⟩
  have : ∀ i, i < 32 → pc (bit1 i) = 1 := by decide +kernel
  exact this i hi
theorem bit1_or : ∀ i, i < 32 → bit1 i ||| bit1 i = bit1 i := by decide +kernel
def fSure (op : Int32) (lt : Nat → Nat → Int32) (p k : Nat) (acc : Int32) : Int32 := if bt op k = true then acc ||| bit1 (un (lt k p)) else acc
theorem bit1_ne0 : ∀ i, i < 32 → bit1 i ≠ 0 := by decide +kernel
section M56
variable {D : zD} {P : Nat → Nat}
theorem op_len (h : iv P D) {k : Nat} (hk : k < 32) (hbb : bt (sWords P D) k = true) : k < P 3 ∧ gI D 109 k = nI (P 6) := by
  obtain ⟨⟨⟨hb, ⟨a0, a1, a2, a3⟩, ⟨b0, b1, b2, b3⟩, hs, hw⟩, ⟨hc, c1, c2, hcv⟩, ⟨hd, ⟨z0, z1, z2⟩, ⟨y0, y1, y2⟩, hp, ht⟩, ⟨hi, i0, i1, him⟩, ⟨hta, ta0, ta1, hpl, htb⟩⟩, hK, hO⟩ := h
  replace y0 : gI _ 102 34 = nI (P 5) := y0
  replace y1 : gI _ 102 35 = nI (P 6) := y1
  replace y2 : gI _ 102 36 = nI (P 7) := y2
  unfold sWords at hbb
  rw [bt_zset (by omega) hk] at hbb
  simp only [Bool.and_eq_true, decide_eq_true_eq] at hbb
  refine ⟨hbb.1, ?_⟩
  have := hbb.2
  unfold sWok at this
  simp only [Bool.and_eq_true, decide_eq_true_eq] at this
  exact this.1
theorem c_sure (h : iv P D) {p : Nat} (hp6 : p < P 6) : fn_X11_sure_31 (nI p) D zFU (sWords P D) (-1) 0 = some (sOnly (zfo (fSure (sWords P D) (fun k i => gI D (120 + k) i) p) (P 3) 0 0)) := by
  have h' := h
  obtain ⟨⟨⟨hb, ⟨a0, a1, a2, a3⟩, ⟨b0, b1, b2, b3⟩, hs, hw⟩, ⟨hc, c1, c2, hcv⟩, ⟨hd, ⟨z0, z1, z2⟩, ⟨y0, y1, y2⟩, hp, ht⟩, ⟨hi, i0, i1, him⟩, ⟨hta, ta0, ta1, hpl, htb⟩⟩, hK, hO⟩ := h
  replace y0 : gI _ 102 34 = nI (P 5) := y0
  replace y1 : gI _ 102 35 = nI (P 6) := y1
  replace y2 : gI _ 102 36 = nI (P 7) := y2
  refine (z_inv (P 3) (fun n i (s : Int32) => fn_X11_sure_31 (nI p) D n (sWords P D) s (nI i)) (fun i s => (s = -1 ∧ zfo (fSure (sWords P D) (fun k i => gI D (120 + k) i) p) i 0 0 = 0) ∨ (∃ m, m < 12 ∧ s = nI m ∧ zfo (fSure (sWords P D) (fun k i => gI D (120 + k) i) p) i 0 0 = bit1 m)) _ ?_ ?_ 0 zFU (-1) (Nat.zero_le _) (zfu_gt (by omega)) (Or.inl ⟨rfl, rfl⟩)).eq
  · intro n i s hi' hI ih
    show zok (fn_X11_sure_31 (nI p) D (n + 1) (sWords P D) s (nI i)) _
    have hz := zfo_last (fSure (sWords P D) (fun k i => gI D (120 + k) i) p) i 0 0
    rw [Nat.zero_add] at hz
    rw [fn_X11_sure_31, a3]
    cases hB : bt (sWords P D) i
    · simp (disch := omega) only [Option.bind_some, Option.map_some, zlet_eq, ↓reduceIte, L_2, L_3, L_4, L_5, L_6, L_7, L_8, L_9, L_10, L_12, L_13, L_20, L_24, L_25, L_26, L_27, L_30, L_32, L_33, L_34, L_40, L_48, L_57, L_58, L_60, L_64, L_90, L_93, L_97, L_99, L_100, L_122, L_144, L_255, L_364, L_480, L_500, L_800, L_1000, L_100000, L_4096, L_1023, L_1024, nLe, nLt, nEq, nI_1, nI_add, pk_mul, nSn, nDn, nCl, zck_nI, zdv_nI, nNeg, nLe0, n0Lt, nEq0, nM1, m1N, m1Lt, nLm1, zcb_0, zcb_1, i10, i01, nEq1, n1Eq, nLt1, gI_eq, gI_nb, gI_na, x_badF, x_badT1, x_badT2, bt_0, bt_1, bit1_u, Bool.true_eq_false, Bool.false_eq_true, eq_self, Int32.or_zero, if_pos, if_neg, hB]
      refine ih s ?_
      rw [hz]
      unfold fSure at *
      rw [if_neg (by rw [hB]; decide)]
      exact hI
    · obtain ⟨q1, q2⟩ := op_len h' (by omega) hB
      obtain ⟨l, l1, l6, w1, w2, w3⟩ := hw i hi'
      have e : l = P 6 := by rw [w2] at q2; exact (nI_eq (by omega) (by omega)).mp q2
      obtain ⟨m2, hm2, w4, w5⟩ := w3 p (by omega)
      have hz2 : zfo (fSure (sWords P D) (fun k i => gI D (120 + k) i) p) (i + 1) 0 0 = zfo (fSure (sWords P D) (fun k i => gI D (120 + k) i) p) i 0 0 ||| bit1 m2 := by
        rw [hz]
        show (if bt (sWords P D) i = true then _ ||| bit1 (un (gI D (120 + i) p)) else _) = _
        rw [if_pos hB, w5, un_nI (by omega)]
      rcases hI with ⟨rfl, hI⟩ | ⟨m, hm, rfl, hI⟩
      · simp (disch := omega) only [Option.bind_some, Option.map_some, zlet_eq, ↓reduceIte, L_2, L_3, L_4, L_5, L_6, L_7, L_8, L_9, L_10, L_12, L_13, L_20, L_24, L_25, L_26, L_27, L_30, L_32, L_33, L_34, L_40, L_48, L_57, L_58, L_60, L_64, L_90, L_93, L_97, L_99, L_100, L_122, L_144, L_255, L_364, L_480, L_500, L_800, L_1000, L_100000, L_4096, L_1023, L_1024, nLe, nLt, nEq, nI_1, nI_add, pk_mul, nSn, nDn, nCl, zck_nI, zdv_nI, nNeg, nLe0, n0Lt, nEq0, nM1, m1N, m1Lt, nLm1, zcb_0, zcb_1, i10, i01, nEq1, n1Eq, nLt1, gI_eq, gI_nb, gI_na, x_badF, x_badT1, x_badT2, bt_0, bt_1, bit1_u, Bool.true_eq_false, Bool.false_eq_true, eq_self, Int32.or_zero, if_pos, if_neg, hB, v_let a3 hi' hb.2.2.2.2.2 w1 (show p < l by omega) l6, w4]
        refine ih (nI m2) (Or.inr ⟨m2, by omega, rfl, ?_⟩)
        rw [hz2, hI, Int32.zero_or]
      · by_cases g : m2 = m
        · subst g
          simp (disch := omega) only [Option.bind_some, Option.map_some, zlet_eq, ↓reduceIte, L_2, L_3, L_4, L_5, L_6, L_7, L_8, L_9, L_10, L_12, L_13, L_20, L_24, L_25, L_26, L_27, L_30, L_32, L_33, L_34, L_40, L_48, L_57, L_58, L_60, L_64, L_90, L_93, L_97, L_99, L_100, L_122, L_144, L_255, L_364, L_480, L_500, L_800, L_1000, L_100000, L_4096, L_1023, L_1024, nLe, nLt, nEq, nI_1, nI_add, pk_mul, nSn, nDn, nCl, zck_nI, zdv_nI, nNeg, nLe0, n0Lt, nEq0, nM1, m1N, m1Lt, nLm1, zcb_0, zcb_1, i10, i01, nEq1, n1Eq, nLt1, gI_eq, gI_nb, gI_na, x_badF, x_badT1, x_badT2, bt_0, bt_1, bit1_u, Bool.true_eq_false, Bool.false_eq_true, eq_self, Int32.or_zero, if_pos, if_neg, hB, v_let a3 hi' hb.2.2.2.2.2 w1 (show p < l by omega) l6, w4]
          refine ih (nI m2) (Or.inr ⟨m2, by omega, rfl, ?_⟩)
          rw [hz2, hI, bit1_or _ (by omega)]
        · simp (disch := omega) only [Option.bind_some, Option.map_some, zlet_eq, ↓reduceIte, L_2, L_3, L_4, L_5, L_6, L_7, L_8, L_9, L_10, L_12, L_13, L_20, L_24, L_25, L_26, L_27, L_30, L_32, L_33, L_34, L_40, L_48, L_57, L_58, L_60, L_64, L_90, L_93, L_97, L_99, L_100, L_122, L_144, L_255, L_364, L_480, L_500, L_800, L_1000, L_100000, L_4096, L_1023, L_1024, nLe, nLt, nEq, nI_1, nI_add, pk_mul, nSn, nDn, nCl, zck_nI, zdv_nI, nNeg, nLe0, n0Lt, nEq0, nM1, m1N, m1Lt, nLm1, zcb_0, zcb_1, i10, i01, nEq1, n1Eq, nLt1, gI_eq, gI_nb, gI_na, x_badF, x_badT1, x_badT2, bt_0, bt_1, bit1_u, Bool.true_eq_false, Bool.false_eq_true, eq_self, Int32.or_zero, if_pos, if_neg, hB, v_let a3 hi' hb.2.2.2.2.2 w1 (show p < l by omega) l6, w4, zok_some]
          have hend : bt (zfo (fSure (sWords P D) (fun k i => gI D (120 + k) i) p) (P 3) 0 0) m = true ∧ bt (zfo (fSure (sWords P D) (fun k i => gI D (120 + k) i) p) (P 3) 0 0) m2 = true := by
            have e3 : ∀ (f : Nat → Int32 → Int32) (a b i : Nat) (s : Int32), zfo f (a + b) i s = zfo f b (i + a) (zfo f a i s) := by
              intro f a b
              induction a with
              | zero => intro i s; rw [Nat.zero_add]; rfl
              | succ a ih => intro i s; rw [show a + 1 + b = (a + b) + 1 by omega, zfo, ih, zfo, show i + 1 + a = i + (a + 1) by omega]
            rw [show P 3 = (i + 1) + (P 3 - (i + 1)) by omega, e3, hz2, hI]
            refine zfo_inv (N := P 3) (fun _ s => bt s m = true ∧ bt s m2 = true) (fun k s _ hs => ?_) (by omega) ?_
            · unfold fSure
              split
              · rw [b_or, b_or, hs.1, hs.2]; exact ⟨rfl, rfl⟩
              · exact hs
            · rw [b_or, b_or, bt_bit1 m (by omega) m (by omega), bt_bit1 m2 (by omega) m2 (by omega)]
              simp
          unfold sOnly
          rw [if_neg (pc_two (a := m) (b := m2) (by omega) (by omega) (Ne.symm g) hend.1 hend.2)]
  · intro n s hI
    show zok (fn_X11_sure_31 (nI p) D (n + 1) (sWords P D) s (nI (P 3))) _
    rw [fn_X11_sure_31, a3]
    simp (disch := omega) only [Option.bind_some, Option.map_some, zlet_eq, ↓reduceIte, L_2, L_3, L_4, L_5, L_6, L_7, L_8, L_9, L_10, L_12, L_13, L_20, L_24, L_25, L_26, L_27, L_30, L_32, L_33, L_34, L_40, L_48, L_57, L_58, L_60, L_64, L_90, L_93, L_97, L_99, L_100, L_122, L_144, L_255, L_364, L_480, L_500, L_800, L_1000, L_100000, L_4096, L_1023, L_1024, nLe, nLt, nEq, nI_1, nI_add, pk_mul, nSn, nDn, nCl, zck_nI, zdv_nI, nNeg, nLe0, n0Lt, nEq0, nM1, m1N, m1Lt, nLm1, zcb_0, zcb_1, i10, i01, nEq1, n1Eq, nLt1, gI_eq, gI_nb, gI_na, x_badF, x_badT1, x_badT2, bt_0, bt_1, bit1_u, Bool.true_eq_false, Bool.false_eq_true, eq_self, Int32.or_zero, if_pos, if_neg, zok_some]
    rcases hI with ⟨rfl, hI⟩ | ⟨m, hm, rfl, hI⟩
    · rw [hI]; rfl
    · rw [hI]
      unfold sOnly
      rw [if_pos (pc_bit1 (by omega)).1, (pc_bit1 (by omega)).2]
theorem r_sure (h : iv P D) {p : Nat} (hp6 : p < P 6) : fn_X12_sure_31 (nI p) zFU (sWords P D) 0 0 D = some (sOnly (zfo (fSure (sWords P D) (fun k i => gI D (120 + k) i) p) (P 3) 0 0), D) := by
  have h' := h
  obtain ⟨⟨⟨hb, ⟨a0, a1, a2, a3⟩, ⟨b0, b1, b2, b3⟩, hs, hw⟩, ⟨hc, c1, c2, hcv⟩, ⟨hd, ⟨z0, z1, z2⟩, ⟨y0, y1, y2⟩, hp, ht⟩, ⟨hi, i0, i1, him⟩, ⟨hta, ta0, ta1, hpl, htb⟩⟩, hK, hO⟩ := h
  replace y0 : gI _ 102 34 = nI (P 5) := y0
  replace y1 : gI _ 102 35 = nI (P 6) := y1
  replace y2 : gI _ 102 36 = nI (P 7) := y2
  refine z_for (P 3) (fun n i b => fn_X12_sure_31 (nI p) n (sWords P D) b (nI i) D) (fSure (sWords P D) (fun k i => gI D (120 + k) i) p) (fun s => some (sOnly s, D)) ?_ ?_ 0 zFU 0 (Nat.zero_le _) (zfu_gt (by omega))
  · intro n i b hi'
    show fn_X12_sure_31 (nI p) (n + 1) (sWords P D) b (nI i) D = fn_X12_sure_31 (nI p) n (sWords P D) _ (nI (i + 1)) D
    rw [fn_X12_sure_31, b3]
    unfold fSure
    cases hB : bt (sWords P D) i
    · simp (disch := omega) only [Option.bind_some, Option.map_some, zlet_eq, ↓reduceIte, L_2, L_3, L_4, L_5, L_6, L_7, L_8, L_9, L_10, L_12, L_13, L_20, L_24, L_25, L_26, L_27, L_30, L_32, L_33, L_34, L_40, L_48, L_57, L_58, L_60, L_64, L_90, L_93, L_97, L_99, L_100, L_122, L_144, L_255, L_364, L_480, L_500, L_800, L_1000, L_100000, L_4096, L_1023, L_1024, nLe, nLt, nEq, nI_1, nI_add, pk_mul, nSn, nDn, nCl, zck_nI, zdv_nI, nNeg, nLe0, n0Lt, nEq0, nM1, m1N, m1Lt, nLm1, zcb_0, zcb_1, i10, i01, nEq1, n1Eq, nLt1, gI_eq, gI_nb, gI_na, x_badF, x_badT1, x_badT2, bt_0, bt_1, bit1_u, Bool.true_eq_false, Bool.false_eq_true, eq_self, Int32.or_zero, if_pos, if_neg, hB]
    · obtain ⟨q1, q2⟩ := op_len h' (by omega) hB
      obtain ⟨l, l1, l6, w1, w2, w3⟩ := hw i hi'
      have e : l = P 6 := by rw [w2] at q2; exact (nI_eq (by omega) (by omega)).mp q2
      obtain ⟨m2, hm2, w4, w5⟩ := w3 p (by omega)
      simp (disch := omega) only [Option.bind_some, Option.map_some, zlet_eq, ↓reduceIte, L_2, L_3, L_4, L_5, L_6, L_7, L_8, L_9, L_10, L_12, L_13, L_20, L_24, L_25, L_26, L_27, L_30, L_32, L_33, L_34, L_40, L_48, L_57, L_58, L_60, L_64, L_90, L_93, L_97, L_99, L_100, L_122, L_144, L_255, L_364, L_480, L_500, L_800, L_1000, L_100000, L_4096, L_1023, L_1024, nLe, nLt, nEq, nI_1, nI_add, pk_mul, nSn, nDn, nCl, zck_nI, zdv_nI, nNeg, nLe0, n0Lt, nEq0, nM1, m1N, m1Lt, nLm1, zcb_0, zcb_1, i10, i01, nEq1, n1Eq, nLt1, gI_eq, gI_nb, gI_na, x_badF, x_badT1, x_badT2, bt_0, bt_1, bit1_u, Bool.true_eq_false, Bool.false_eq_true, eq_self, Int32.or_zero, if_pos, if_neg, hB, w5, un_nI]
  · intro n b
    show fn_X12_sure_31 (nI p) (n + 1) (sWords P D) b (nI (P 3)) D = _
    rw [fn_X12_sure_31, b3]
    simp (disch := omega) only [Option.bind_some, Option.map_some, zlet_eq, ↓reduceIte, L_2, L_3, L_4, L_5, L_6, L_7, L_8, L_9, L_10, L_12, L_13, L_20, L_24, L_25, L_26, L_27, L_30, L_32, L_33, L_34, L_40, L_48, L_57, L_58, L_60, L_64, L_90, L_93, L_97, L_99, L_100, L_122, L_144, L_255, L_364, L_480, L_500, L_800, L_1000, L_100000, L_4096, L_1023, L_1024, nLe, nLt, nEq, nI_1, nI_add, pk_mul, nSn, nDn, nCl, zck_nI, zdv_nI, nNeg, nLe0, n0Lt, nEq0, nM1, m1N, m1Lt, nLm1, zcb_0, zcb_1, i10, i01, nEq1, n1Eq, nLt1, gI_eq, gI_nb, gI_na, x_badF, x_badT1, x_badT2, bt_0, bt_1, bit1_u, Bool.true_eq_false, Bool.false_eq_true, eq_self, Int32.or_zero, if_pos, if_neg, x_only]
theorem t_sure (h : iv P D) (v : Int32) : duo (fun D => (fn_X11_sure v D).map fun x => (x, D)) (fn_X12_sure v) D := by
  have h' := h
  have e1 := c_rowWords h
  have e2 := r_wordsOf (h.thr 0)
  have e3 := sWords_thr (P := P) (D := D) (E := sI D 102 0 0) (fun a b g => by rcases g with g | g; exact gI_na g; exact gI_nb g)
  obtain ⟨⟨⟨hb, ⟨a0, a1, a2, a3⟩, ⟨b0, b1, b2, b3⟩, hs, hw⟩, ⟨hc, c1, c2, hcv⟩, ⟨hd, ⟨z0, z1, z2⟩, ⟨y0, y1, y2⟩, hp, ht⟩, ⟨hi, i0, i1, him⟩, ⟨hta, ta0, ta1, hpl, htb⟩⟩, hK, hO⟩ := h
  replace y0 : gI _ 102 34 = nI (P 5) := y0
  replace y1 : gI _ 102 35 = nI (P 6) := y1
  replace y2 : gI _ 102 36 = nI (P 7) := y2
  unfold duo fn_X11_sure fn_X12_sure
  dsimp only
  rcases x_inN (v := v) (n := P 6) (by omega) with ⟨e, g⟩ | ⟨e, j, hj, rfl⟩
  · have e5 : (if v < 0 then some (-1) else if gI D 57 1 ≤ v then some (-1) else if sWords P D = 0 then some (-1) else fn_X11_sure_31 v D zFU (sWords P D) (-1) 0) = some (-1 : Int32) := by
      rw [z1]
      by_cases g1 : v < 0
      · rw [if_pos g1]
      · rw [if_neg g1, if_pos (by rcases g with g | g; exact absurd g g1; exact g)]
    rw [e1, Option.bind_some, e5]
    simp (disch := omega) only [Option.bind_some, Option.map_some, zlet_eq, ↓reduceIte, L_2, L_3, L_4, L_5, L_6, L_7, L_8, L_9, L_10, L_12, L_13, L_20, L_24, L_25, L_26, L_27, L_30, L_32, L_33, L_34, L_40, L_48, L_57, L_58, L_60, L_64, L_90, L_93, L_97, L_99, L_100, L_122, L_144, L_255, L_364, L_480, L_500, L_800, L_1000, L_100000, L_4096, L_1023, L_1024, nLe, nLt, nEq, nI_1, nI_add, pk_mul, nSn, nDn, nCl, zck_nI, zdv_nI, nNeg, nLe0, n0Lt, nEq0, nM1, m1N, m1Lt, nLm1, zcb_0, zcb_1, i10, i01, nEq1, n1Eq, nLt1, gI_eq, gI_nb, gI_na, x_badF, x_badT1, x_badT2, bt_0, bt_1, bit1_u, Bool.true_eq_false, Bool.false_eq_true, eq_self, Int32.or_zero, if_pos, if_neg, y1, e, e2, zok_some]
    exact ⟨⟨P, h'.thr 0⟩, trivial⟩
  · have m := r_sure (h'.thr 0) hj
    rw [e3] at m e2
    have m2 : (fun k i => gI (sI D 102 0 0) (120 + k) i) = (fun k i => gI D (120 + k) i) := funext fun k => funext fun i => gI_na (by omega)
    rw [m2] at m
    rw [e1, Option.bind_some, z1]
    by_cases g : sWords P D = 0
    · simp (disch := omega) only [Option.bind_some, Option.map_some, zlet_eq, ↓reduceIte, L_2, L_3, L_4, L_5, L_6, L_7, L_8, L_9, L_10, L_12, L_13, L_20, L_24, L_25, L_26, L_27, L_30, L_32, L_33, L_34, L_40, L_48, L_57, L_58, L_60, L_64, L_90, L_93, L_97, L_99, L_100, L_122, L_144, L_255, L_364, L_480, L_500, L_800, L_1000, L_100000, L_4096, L_1023, L_1024, nLe, nLt, nEq, nI_1, nI_add, pk_mul, nSn, nDn, nCl, zck_nI, zdv_nI, nNeg, nLe0, n0Lt, nEq0, nM1, m1N, m1Lt, nLm1, zcb_0, zcb_1, i10, i01, nEq1, n1Eq, nLt1, gI_eq, gI_nb, gI_na, x_badF, x_badT1, x_badT2, bt_0, bt_1, bit1_u, Bool.true_eq_false, Bool.false_eq_true, eq_self, Int32.or_zero, if_pos, if_neg, y1, e, e2, g, zok_some]
      rw [g] at m
      have hz : zfo (fSure 0 (fun k i => gI D (120 + k) i) j) (P 3) 0 0 = 0 := by
        refine zfo_inv (N := P 3) (fun _ s => s = 0) (fun k s _ hs => ?_) (by omega) rfl
        unfold fSure
        rw [if_neg (by rw [b_0]; decide)]
        exact hs
      rw [hz] at m
      rw [m]
      exact ⟨_, rfl, ⟨P, h'.thr 0⟩, rfl⟩
    · simp (disch := omega) only [Option.bind_some, Option.map_some, zlet_eq, ↓reduceIte, L_2, L_3, L_4, L_5, L_6, L_7, L_8, L_9, L_10, L_12, L_13, L_20, L_24, L_25, L_26, L_27, L_30, L_32, L_33, L_34, L_40, L_48, L_57, L_58, L_60, L_64, L_90, L_93, L_97, L_99, L_100, L_122, L_144, L_255, L_364, L_480, L_500, L_800, L_1000, L_100000, L_4096, L_1023, L_1024, nLe, nLt, nEq, nI_1, nI_add, pk_mul, nSn, nDn, nCl, zck_nI, zdv_nI, nNeg, nLe0, n0Lt, nEq0, nM1, m1N, m1Lt, nLm1, zcb_0, zcb_1, i10, i01, nEq1, n1Eq, nLt1, gI_eq, gI_nb, gI_na, x_badF, x_badT1, x_badT2, bt_0, bt_1, bit1_u, Bool.true_eq_false, Bool.false_eq_true, eq_self, Int32.or_zero, if_pos, if_neg, y1, e, e2, g, c_sure h' hj, m, zok_some]
      exact ⟨⟨P, h'.thr 0⟩, trivial⟩
end M56
