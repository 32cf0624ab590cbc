/-! THE MATHEMATICS: row by row, the reference -/
def pAl (a _b : Nat) : Prop := a ≠ 201
def pTk (a _b : Nat) : Prop := a ≠ 201 ∧ a ≠ 203
section M78
variable {D : zD} {P : Nat → Nat} {nc c ns d w k : Nat} {cv : Nat → Int32}
theorem r_layAlike (h14 : gI D 102 14 = nI w) (h15 : gI D 102 15 = nI k) (hw : w ≤ 6) (hk : k ≤ 5) (h12 : w * k ≤ 12) (hc : rcv ns nc d cv D) : zok (fn_X12_layAlike D) fun E => (∀ x, x < 2 ^ (w * k) → gI E 201 x = bI (cfx nc cv (2 * d) (nI x))) ∧ agL pAl D E := by
  obtain ⟨⟨hn, hnc, hd50⟩, h16, h26, h34, h128⟩ := hc
  have hp : 2 ^ (w * k) ≤ 2 ^ 12 := Nat.pow_le_pow_right (by decide) h12
  have hp0 : 0 < 2 ^ (w * k) := Nat.two_pow_pos _
  unfold fn_X12_layAlike
  refine z_inv (2 ^ (w * k)) (fun n v (E : zD) => fn_X12_layAlike_2 n (nI v) E) (fun v E => (∀ x, x < v → gI E 201 x = bI (cfx nc cv (2 * d) (nI x))) ∧ agL pAl D E) _ ?_ ?_ 0 zFU D (Nat.zero_le _) (zfu_gt (by omega)) ⟨fun x hx => by omega, agL.refl⟩
  · intro n v E hv ⟨g1, g2⟩ ih
    show zok (fn_X12_layAlike_2 (n + 1) (nI v) E) _
    have hcf := sFi_cfx (nc := nc) (cv := cv) (e := 2 * d) (x := nI v) hnc
    rw [fn_X12_layAlike_2, x_allCells (w := w) (h := k) (by rw [g2.1 _ _ (by unfold pAl; omega), h14]) (by rw [g2.1 _ _ (by unfold pAl; omega), h15]) hw hk, Option.bind_some, if_neg (show ¬ nI (2 ^ (w * k) - 1) < nI v by rw [nLt _ _ (by omega) (by omega)]; omega), r_first (nc := nc) (d := d) (by rw [g2.1 _ _ (by unfold pAl; omega), h26]) hnc _ _ hd50 (by rw [g2.1 _ _ (by unfold pAl; omega), h34]), Option.bind_some, show gI E 128 = cv from by rw [← h128]; exact funext fun b => g2.1 _ _ (by unfold pAl; omega), Int32.xor_zero, zck_nI (by omega) (by omega), zck_nI (by omega) (by omega), nI_clamp (by omega), zlet_eq, zlet_eq, nI_1]
    have nxt : ∀ b, b = bI (cfx nc cv (2 * d) (nI v)) → zok (fn_X12_layAlike_2 n (nI (v + 1)) (sI E 201 v b)) fun E => (∀ x, x < 2 ^ (w * k) → gI E 201 x = bI (cfx nc cv (2 * d) (nI x))) ∧ agL pAl D E := fun b hb => ih _ ⟨fun x hx => by
      rw [gI_if]
      by_cases q : x = v
      · rw [if_pos q, hb, q]
      · rw [if_neg q]; exact g1 x (by omega), agL_sI g2 (by unfold pAl; omega)⟩
    by_cases q : sFi nc cv (2 * d) (nI v) = -1
    · rw [if_pos q]; exact nxt 0 (by rw [hcf.1.mp q]; rfl)
    · rw [if_neg q]; exact nxt 1 (by rw [hcf.2.mp q]; rfl)
  · intro n E ⟨g1, g2⟩
    show zok (fn_X12_layAlike_2 (n + 1) (nI (2 ^ (w * k))) E) _
    rw [fn_X12_layAlike_2, x_allCells (w := w) (h := k) (by rw [g2.1 _ _ (by unfold pAl; omega), h14]) (by rw [g2.1 _ _ (by unfold pAl; omega), h15]) hw hk, Option.bind_some, if_pos (show nI (2 ^ (w * k) - 1) < nI (2 ^ (w * k)) by rw [nLt _ _ (by omega) (by omega)]; omega), zok_some]
    exact ⟨g1, g2⟩
theorem r_taken24 (h14 : gI D 102 14 = nI w) (h15 : gI D 102 15 = nI k) (hw : w ≤ 6) (hk : k ≤ 5) (h12 : w * k ≤ 12) {e : Nat} (hal : ∀ x, x < 2 ^ (w * k) → gI D 201 x = bI (cfx nc cv e (nI x))) : zok (fn_X12_taken_24 zFU 0 0 D) fun q => q.1 = nI (tkS nc cv e (2 ^ (w * k))).1 ∧ agL pTk D q.2 := by
  have hp : 2 ^ (w * k) ≤ 2 ^ 12 := Nat.pow_le_pow_right (by decide) h12
  have hp0 : 0 < 2 ^ (w * k) := Nat.two_pow_pos _
  refine z_inv (2 ^ (w * k)) (fun n v (s : Int32 × zD) => fn_X12_taken_24 n s.1 (nI v) s.2) (fun v s => s.1 = nI (tkS nc cv e v).1 ∧ (tkS nc cv e v).1 ≤ v ∧ (∀ i, i < (tkS nc cv e v).1 → ∃ t, (tkS nc cv e v).2 t = true ∧ gI s.2 203 i = nI t) ∧ (∀ t, (tkS nc cv e v).2 t = true → ∃ i, i < (tkS nc cv e v).1 ∧ gI s.2 203 i = nI t) ∧ (∀ x, gI s.2 201 x = gI D 201 x) ∧ agL pTk D s.2) _ ?_ ?_ 0 zFU ((0 : Int32), D) (Nat.zero_le _) (zfu_gt (by omega)) ⟨rfl, Nat.le_refl _, fun i hi => absurd hi (Nat.not_lt_zero _), fun t ht => (by cases ht), fun _ => rfl, agL.refl⟩
  · intro n v ⟨s1, E⟩ hv ⟨g1, g2, g3, g4, g5, g6⟩ ih
    show zok (fn_X12_taken_24 (n + 1) s1 (nI v) E) _
    replace g1 : s1 = nI (tkS nc cv e v).1 := g1
    subst g1
    generalize hS : tkS nc cv e v = S at *
    have e5 : tkS nc cv e (v + 1) = tkf nc cv e v S := by rw [tkS_next, hS]
    rw [fn_X12_taken_24, x_allCells (w := w) (h := k) (by rw [g6.1 _ _ (by unfold pTk; omega), h14]) (by rw [g6.1 _ _ (by unfold pTk; omega), h15]) hw hk, Option.bind_some, if_neg (show ¬ nI (2 ^ (w * k) - 1) < nI v by rw [nLt _ _ (by omega) (by omega)]; omega)]
    have lt : ∀ t, S.2 t = true → t < v := fun t ht => tkS_lt (nc := nc) (cv := cv) (e := e) v t (by rw [hS]; exact ht)
    have fin1 : (∀ t, t < v → S.2 t = true → cfx nc cv e (nI (v ^^^ t)) = false) → zok (fn_X12_taken_76 (fn_X12_taken_24 n) (nI S.1) (nI v) 1 E) fun q => q.1 = nI (tkS nc cv e (2 ^ (w * k))).1 ∧ agL pTk D q.2 := by
      intro hz
      have e6 : tkS nc cv e (v + 1) = (S.1 + 1, fun t => S.2 t || decide (t = v)) := by
        rw [e5]
        unfold tkf
        rw [if_pos]
        rw [fb_ct_zero]
        intro t ht
        rw [nx_xor]
        cases q : S.2 t
        · rfl
        · rw [hz t ht q]; rfl
      unfold fn_X12_taken_76
      rw [if_neg (by decide), zck_nI (by omega) (by omega), nI_clamp (by omega), zlet_eq, nI_1, nI_1]
      refine ih (nI (S.1 + 1), sI E 203 S.1 (nI v)) ⟨by rw [e6], by rw [e6]; show S.1 + 1 ≤ v + 1; omega, fun i hi => ?_, fun t ht => ?_, fun x => ?_, agL_sI g6 (by unfold pTk; omega)⟩
      · rw [e6] at hi ⊢
        replace hi : i < S.1 + 1 := hi
        by_cases q : i = S.1
        · exact ⟨v, by show (S.2 v || decide (v = v)) = true; rw [decide_eq_true rfl, Bool.or_true], by show gI (sI E 203 S.1 (nI v)) 203 i = _; rw [q, gI_eq]⟩
        · obtain ⟨t, t1, t2⟩ := g3 i (by omega)
          exact ⟨t, by show (S.2 t || decide (t = v)) = true; rw [t1, Bool.true_or], by show gI (sI E 203 S.1 (nI v)) 203 i = _; rw [gI_nb q]; exact t2⟩
      · rw [e6] at ht ⊢
        replace ht : (S.2 t || decide (t = v)) = true := ht
        rw [Bool.or_eq_true, decide_eq_true_eq] at ht
        rcases ht with ht | rfl
        · obtain ⟨i, i1, i2⟩ := g4 t ht
          exact ⟨i, by show i < S.1 + 1; omega, by show gI (sI E 203 S.1 (nI v)) 203 i = _; rw [gI_nb (by omega)]; exact i2⟩
        · exact ⟨S.1, by show S.1 < S.1 + 1; omega, gI_eq⟩
      · show gI (sI E 203 S.1 (nI v)) 201 x = _
        rw [gI_na (by omega)]
        exact g5 x
    have fin0 : (∃ t, t < v ∧ S.2 t = true ∧ cfx nc cv e (nI (v ^^^ t)) = true) → zok (fn_X12_taken_76 (fn_X12_taken_24 n) (nI S.1) (nI v) 0 E) fun q => q.1 = nI (tkS nc cv e (2 ^ (w * k))).1 ∧ agL pTk D q.2 := by
      rintro ⟨t, t1, t2, t3⟩
      have e6 : tkS nc cv e (v + 1) = S := by
        rw [e5]
        unfold tkf
        rw [if_neg]
        rw [fb_ct_zero]
        intro hz
        have := hz t t1
        rw [nx_xor, t2, t3] at this
        cases this
      unfold fn_X12_taken_76
      rw [if_pos rfl, nI_1]
      exact ih (nI S.1, E) ⟨by rw [e6], by rw [e6]; omega, by rw [e6]; exact g3, by rw [e6]; exact g4, g5, g6⟩
    refine z_inv S.1 (fun m i (f : Int32) => fn_X12_taken_37 (fn_X12_taken_24 n) m (nI S.1) (nI v) f (nI i) E) (fun i f => (f = 1 ∧ ∀ j, j < i → ∀ t, gI E 203 j = nI t → t < v → cfx nc cv e (nI (v ^^^ t)) = false) ∨ (f = 0 ∧ ∃ t, t < v ∧ S.2 t = true ∧ cfx nc cv e (nI (v ^^^ t)) = true)) _ ?_ ?_ 0 zFU (1 : Int32) (Nat.zero_le _) (zfu_gt (by omega)) (Or.inl ⟨rfl, fun j hj => absurd hj (Nat.not_lt_zero _)⟩)
    · intro m i f hi hf ih2
      show zok (fn_X12_taken_37 (fn_X12_taken_24 n) (m + 1) (nI S.1) (nI v) f (nI i) E) _
      rw [fn_X12_taken_37, if_neg (nI_ge hi (by omega))]
      rcases hf with ⟨rfl, hf⟩ | ⟨rfl, hf⟩
      · obtain ⟨t, t1, t2⟩ := g3 i hi
        replace t2 : gI E 203 i = nI t := t2
        have tv := lt t t1
        have hxv : v ^^^ t < 2 ^ (w * k) := Nat.xor_lt_two_pow hv (by omega)
        rw [if_neg (by decide), zck_nI (by omega) (by omega), nI_clamp (by omega), t2, nx_xor, zck_nI (by omega) (by omega), nI_clamp (by omega), show gI E 201 (v ^^^ t) = _ from (g5 _).trans (hal _ hxv), nI_1]
        cases q : cfx nc cv e (nI (v ^^^ t))
        · rw [if_pos (show bI false = 0 from rfl)]
          refine ih2 1 (Or.inl ⟨rfl, fun j hj u hu huv => ?_⟩)
          by_cases q2 : j = i
          · subst q2
            rw [t2, nEq _ _ (by omega) (by omega)] at hu
            rw [← hu]; exact q
          · exact hf j (by omega) u hu huv
        · rw [if_neg (show ¬ bI true = 0 by decide)]
          exact ih2 0 (Or.inr ⟨rfl, t, tv, t1, q⟩)
      · rw [if_pos rfl]
        exact fin0 hf
    · intro m f hf
      show zok (fn_X12_taken_37 (fn_X12_taken_24 n) (m + 1) (nI S.1) (nI v) f (nI S.1) E) _
      rw [fn_X12_taken_37, if_pos (nI_le (Nat.le_refl _) (by omega))]
      rcases hf with ⟨rfl, hf⟩ | ⟨rfl, hf⟩
      · refine fin1 fun t ht hs => ?_
        obtain ⟨i, i1, i2⟩ := g4 t hs
        exact hf i i1 t i2 ht
      · exact fin0 hf
  · intro n ⟨s1, E⟩ ⟨g1, g2, g3, g4, g5, g6⟩
    show zok (fn_X12_taken_24 (n + 1) s1 (nI (2 ^ (w * k))) E) _
    rw [fn_X12_taken_24, x_allCells (w := w) (h := k) (by rw [g6.1 _ _ (by unfold pTk; omega), h14]) (by rw [g6.1 _ _ (by unfold pTk; omega), h15]) hw hk, Option.bind_some, if_pos (show nI (2 ^ (w * k) - 1) < nI (2 ^ (w * k)) by rw [nLt _ _ (by omega) (by omega)]; omega), zok_some]
    exact ⟨g1, g6⟩
theorem pTk_iv {E : zD} (h : iv P D) (g : agL pTk D E) : iv P E := h.keep (g.1.mono (by unfold pTk pcr pA pB pS pI pT; intros; omega)) (g.1.mono (by unfold pTk pK; intros; omega)) (g.1.mono (by unfold pTk pO; intros; omega))
theorem r_taken (h : iv P D) : zok (fn_X12_taken D) fun q => q.1 = sTaken (P 0 * P 1) (P 4) (gI D 128) (2 * P 5) ∧ iv P q.2 := by
  have hi := h.thr 0
  unfold fn_X12_taken
  have hr := iv_rcv hi
  have f128 : gI (sI D 102 0 0) 128 = gI D 128 := gIf (by omega)
  rw [f128] at hr
  generalize gI D 128 = cv at *
  have hb := hi.1.1.1
  have h14 := hi.1.1.2.2.1.1
  have h15 := hi.1.1.2.2.1.2.1
  have h30 := wh_le hb.2.1 hb.2.2.2.1
  rw [zlet_eq, r_cells h14 h15, Option.bind_some]
  unfold sTaken
  by_cases q : P 0 * P 1 ≤ 12
  · rw [show (12 : Int32) = nI 12 from rfl, if_pos (nI_le q (by omega)), if_neg (by omega)]
    refine (r_layAlike h14 h15 hb.2.1 hb.2.2.2.1 q hr).bind fun E ⟨e1, e2⟩ => ?_
    refine (r_taken24 (D := E) (by rw [e2.1 _ _ (by unfold pAl; omega)]; exact h14) (by rw [e2.1 _ _ (by unfold pAl; omega)]; exact h15) hb.2.1 hb.2.2.2.1 q e1).mono fun r ⟨r1, r2⟩ => ⟨r1, ?_⟩
    exact pTk_iv hi ((e2.mono (by unfold pAl pTk; intros; omega)).trans r2)
  · rw [show (12 : Int32) = nI 12 from rfl, if_neg (nI_ge (by omega) (by omega)), if_pos (by omega), zok_some]
    exact ⟨rfl, hi⟩
theorem iv_2 {E : zD} (h : iv P D) (e : E.2 = D.2) : iv P E := h.keep (fun a b _ => by show E.2 a b = D.2 a b; rw [e]) (fun a b _ => by show E.2 a b = D.2 a b; rw [e]) (fun a b _ => by show E.2 a b = D.2 a b; rw [e])
theorem sTaken_cong {cw : Nat → Int32} {e : Nat} (h : ∀ k, k < nc → cv k = cw k) : sTaken c nc cv e = sTaken c nc cw e := by
  unfold sTaken sTk
  rw [zfo_cong (g := fun v (s : Nat × (Nat → Bool)) => if fb_ct (fun t => s.2 t && cfx nc cw e (nI v ^^^ nI t)) v = 0 then (s.1 + 1, fun t => s.2 t || decide (t = v)) else s) fun k s _ _ => by
    rw [fb_ct_cong (q := fun t => s.2 t && cfx nc cw e (nI k ^^^ nI t)) fun t _ => by rw [cfx_cong h]]]
theorem tk_taken (h : iv P D) : duo fn_X11_taken fn_X12_taken D := by
  have hc : zok (fn_X11_taken D) fun q => q.1 = sTaken (P 0 * P 1) (P 4) (gI D 128) (2 * P 5) ∧ iv P q.2 ∧ gI q.2 128 = gI D 128 := by
    have h' := h
    obtain ⟨⟨⟨hb, ⟨a0, a1, a2, a3⟩, ⟨b0, b1, b2, b3⟩, hs, hw⟩, ⟨hc, c1, c2, hcv⟩, ⟨hd, ⟨z0, z1, z2⟩, ⟨y0, y1, y2⟩, hp, ht⟩, ⟨hi, i0, i1, him⟩, ⟨hta, ta0, ta1, hpl, htb⟩⟩, hK, hO⟩ := h
    replace y0 : gI _ 102 34 = nI (P 5) := y0
    replace y1 : gI _ 102 35 = nI (P 6) := y1
    replace y2 : gI _ 102 36 = nI (P 7) := y2
    have h30 := wh_le (w := P 0) (h := P 1) (by omega) (by omega)
    unfold fn_X11_taken
    rw [show fn_X11_keptAt 9 D = some (gI D 101 9) from c_keptAt (k := 9) (by omega), Option.bind_some]
    by_cases q : gI D 101 9 = -1000000
    · rw [if_pos q, show fn_X0_cells 3 D = some (nI (P 0 * P 1)) from by unfold fn_X0_cells; rw [a0, a1, pk_mul], Option.bind_some, z0]
      refine (c_rowByRow (a := 20) (c := P 0 * P 1) c1 hc.2 (d := P 5) (by omega) h30).bind fun r ⟨r1, r2⟩ => ?_
      have hr := iv_2 h' r2
      have hg : ag pM r.2 (sI r.2 101 9 r.1) := ag.refl.sI (by unfold pM; omega)
      have f128 : gI r.2 128 = gI D 128 := by show r.2.2 128 = _; rw [r2]; rfl
      have f105 : gI r.2 105 = gI D 105 := by show r.2.2 105 = _; rw [r2]; rfl
      have e1 : r.1 = sTaken (P 0 * P 1) (P 4) (gI D 128) (2 * P 5) := by rw [r1]; exact sTaken_cong fun k hk => (hcv k hk).1
      rw [show ∀ v, fn_X11_keep 9 v r.2 = some (sI r.2 101 9 v) from fun v => c_keep (k := 9) (by omega) v, Option.bind_some, show fn_X11_keptAt 9 (sI r.2 101 9 r.1) = some _ from c_keptAt (k := 9) (by omega), Option.bind_some, zok_some]
      refine ⟨?_, pM_iv hr hg (hr.2.1.mk hg (Or.inl ⟨by simp (disch := omega) only [Option.bind_some, Option.map_some, zlet_eq, ↓reduceIte, L_2, L_3, L_4, L_5, L_6, L_7, L_8, L_9, L_10, L_12, L_13, L_20, L_24, L_25, L_26, L_27, L_30, L_32, L_33, L_34, L_40, L_48, L_57, L_58, L_60, L_64, L_90, L_93, L_97, L_99, L_100, L_122, L_144, L_255, L_364, L_480, L_500, L_800, L_1000, L_100000, L_4096, L_1023, L_1024, nLe, nLt, nEq, nI_1, nI_add, pk_mul, nSn, nDn, nCl, zck_nI, zdv_nI, nNeg, nLe0, n0Lt, nEq0, nM1, m1N, m1Lt, nLm1, zcb_0, zcb_1, i10, i01, nEq1, n1Eq, nLt1, gI_eq, gI_nb, gI_na, x_badF, x_badT1, x_badT2, bt_0, bt_1, bit1_u, Bool.true_eq_false, Bool.false_eq_true, eq_self, Int32.or_zero, L_11, L_14, L_15, L_16, L_17, L_18, L_19, L_21, L_22, L_23, L_28, L_29, if_pos, if_neg], by simp (disch := omega) only [Option.bind_some, Option.map_some, zlet_eq, ↓reduceIte, L_2, L_3, L_4, L_5, L_6, L_7, L_8, L_9, L_10, L_12, L_13, L_20, L_24, L_25, L_26, L_27, L_30, L_32, L_33, L_34, L_40, L_48, L_57, L_58, L_60, L_64, L_90, L_93, L_97, L_99, L_100, L_122, L_144, L_255, L_364, L_480, L_500, L_800, L_1000, L_100000, L_4096, L_1023, L_1024, nLe, nLt, nEq, nI_1, nI_add, pk_mul, nSn, nDn, nCl, zck_nI, zdv_nI, nNeg, nLe0, n0Lt, nEq0, nM1, m1N, m1Lt, nLm1, zcb_0, zcb_1, i10, i01, nEq1, n1Eq, nLt1, gI_eq, gI_nb, gI_na, x_badF, x_badT1, x_badT2, bt_0, bt_1, bit1_u, Bool.true_eq_false, Bool.false_eq_true, eq_self, Int32.or_zero, L_11, L_14, L_15, L_16, L_17, L_18, L_19, L_21, L_22, L_23, L_28, L_29, if_pos, if_neg]⟩) (Or.inl ⟨by simp (disch := omega) only [Option.bind_some, Option.map_some, zlet_eq, ↓reduceIte, L_2, L_3, L_4, L_5, L_6, L_7, L_8, L_9, L_10, L_12, L_13, L_20, L_24, L_25, L_26, L_27, L_30, L_32, L_33, L_34, L_40, L_48, L_57, L_58, L_60, L_64, L_90, L_93, L_97, L_99, L_100, L_122, L_144, L_255, L_364, L_480, L_500, L_800, L_1000, L_100000, L_4096, L_1023, L_1024, nLe, nLt, nEq, nI_1, nI_add, pk_mul, nSn, nDn, nCl, zck_nI, zdv_nI, nNeg, nLe0, n0Lt, nEq0, nM1, m1N, m1Lt, nLm1, zcb_0, zcb_1, i10, i01, nEq1, n1Eq, nLt1, gI_eq, gI_nb, gI_na, x_badF, x_badT1, x_badT2, bt_0, bt_1, bit1_u, Bool.true_eq_false, Bool.false_eq_true, eq_self, Int32.or_zero, L_11, L_14, L_15, L_16, L_17, L_18, L_19, L_21, L_22, L_23, L_28, L_29, if_pos, if_neg], by simp (disch := omega) only [Option.bind_some, Option.map_some, zlet_eq, ↓reduceIte, L_2, L_3, L_4, L_5, L_6, L_7, L_8, L_9, L_10, L_12, L_13, L_20, L_24, L_25, L_26, L_27, L_30, L_32, L_33, L_34, L_40, L_48, L_57, L_58, L_60, L_64, L_90, L_93, L_97, L_99, L_100, L_122, L_144, L_255, L_364, L_480, L_500, L_800, L_1000, L_100000, L_4096, L_1023, L_1024, nLe, nLt, nEq, nI_1, nI_add, pk_mul, nSn, nDn, nCl, zck_nI, zdv_nI, nNeg, nLe0, n0Lt, nEq0, nM1, m1N, m1Lt, nLm1, zcb_0, zcb_1, i10, i01, nEq1, n1Eq, nLt1, gI_eq, gI_nb, gI_na, x_badF, x_badT1, x_badT2, bt_0, bt_1, bit1_u, Bool.true_eq_false, Bool.false_eq_true, eq_self, Int32.or_zero, L_11, L_14, L_15, L_16, L_17, L_18, L_19, L_21, L_22, L_23, L_28, L_29, if_pos, if_neg], by simp (disch := omega) only [Option.bind_some, Option.map_some, zlet_eq, ↓reduceIte, L_2, L_3, L_4, L_5, L_6, L_7, L_8, L_9, L_10, L_12, L_13, L_20, L_24, L_25, L_26, L_27, L_30, L_32, L_33, L_34, L_40, L_48, L_57, L_58, L_60, L_64, L_90, L_93, L_97, L_99, L_100, L_122, L_144, L_255, L_364, L_480, L_500, L_800, L_1000, L_100000, L_4096, L_1023, L_1024, nLe, nLt, nEq, nI_1, nI_add, pk_mul, nSn, nDn, nCl, zck_nI, zdv_nI, nNeg, nLe0, n0Lt, nEq0, nM1, m1N, m1Lt, nLm1, zcb_0, zcb_1, i10, i01, nEq1, n1Eq, nLt1, gI_eq, gI_nb, gI_na, x_badF, x_badT1, x_badT2, bt_0, bt_1, bit1_u, Bool.true_eq_false, Bool.false_eq_true, eq_self, Int32.or_zero, L_11, L_14, L_15, L_16, L_17, L_18, L_19, L_21, L_22, L_23, L_28, L_29, if_pos, if_neg]⟩) (Or.inl ⟨by simp (disch := omega) only [Option.bind_some, Option.map_some, zlet_eq, ↓reduceIte, L_2, L_3, L_4, L_5, L_6, L_7, L_8, L_9, L_10, L_12, L_13, L_20, L_24, L_25, L_26, L_27, L_30, L_32, L_33, L_34, L_40, L_48, L_57, L_58, L_60, L_64, L_90, L_93, L_97, L_99, L_100, L_122, L_144, L_255, L_364, L_480, L_500, L_800, L_1000, L_100000, L_4096, L_1023, L_1024, nLe, nLt, nEq, nI_1, nI_add, pk_mul, nSn, nDn, nCl, zck_nI, zdv_nI, nNeg, nLe0, n0Lt, nEq0, nM1, m1N, m1Lt, nLm1, zcb_0, zcb_1, i10, i01, nEq1, n1Eq, nLt1, gI_eq, gI_nb, gI_na, x_badF, x_badT1, x_badT2, bt_0, bt_1, bit1_u, Bool.true_eq_false, Bool.false_eq_true, eq_self, Int32.or_zero, L_11, L_14, L_15, L_16, L_17, L_18, L_19, L_21, L_22, L_23, L_28, L_29, if_pos, if_neg], by simp (disch := omega) only [Option.bind_some, Option.map_some, zlet_eq, ↓reduceIte, L_2, L_3, L_4, L_5, L_6, L_7, L_8, L_9, L_10, L_12, L_13, L_20, L_24, L_25, L_26, L_27, L_30, L_32, L_33, L_34, L_40, L_48, L_57, L_58, L_60, L_64, L_90, L_93, L_97, L_99, L_100, L_122, L_144, L_255, L_364, L_480, L_500, L_800, L_1000, L_100000, L_4096, L_1023, L_1024, nLe, nLt, nEq, nI_1, nI_add, pk_mul, nSn, nDn, nCl, zck_nI, zdv_nI, nNeg, nLe0, n0Lt, nEq0, nM1, m1N, m1Lt, nLm1, zcb_0, zcb_1, i10, i01, nEq1, n1Eq, nLt1, gI_eq, gI_nb, gI_na, x_badF, x_badT1, x_badT2, bt_0, bt_1, bit1_u, Bool.true_eq_false, Bool.false_eq_true, eq_self, Int32.or_zero, L_11, L_14, L_15, L_16, L_17, L_18, L_19, L_21, L_22, L_23, L_28, L_29, if_pos, if_neg]⟩) (Or.inl (by simp (disch := omega) only [Option.bind_some, Option.map_some, zlet_eq, ↓reduceIte, L_2, L_3, L_4, L_5, L_6, L_7, L_8, L_9, L_10, L_12, L_13, L_20, L_24, L_25, L_26, L_27, L_30, L_32, L_33, L_34, L_40, L_48, L_57, L_58, L_60, L_64, L_90, L_93, L_97, L_99, L_100, L_122, L_144, L_255, L_364, L_480, L_500, L_800, L_1000, L_100000, L_4096, L_1023, L_1024, nLe, nLt, nEq, nI_1, nI_add, pk_mul, nSn, nDn, nCl, zck_nI, zdv_nI, nNeg, nLe0, n0Lt, nEq0, nM1, m1N, m1Lt, nLm1, zcb_0, zcb_1, i10, i01, nEq1, n1Eq, nLt1, gI_eq, gI_nb, gI_na, x_badF, x_badT1, x_badT2, bt_0, bt_1, bit1_u, Bool.true_eq_false, Bool.false_eq_true, eq_self, Int32.or_zero, L_11, L_14, L_15, L_16, L_17, L_18, L_19, L_21, L_22, L_23, L_28, L_29, if_pos, if_neg])) (Or.inl (by simp (disch := omega) only [Option.bind_some, Option.map_some, zlet_eq, ↓reduceIte, L_2, L_3, L_4, L_5, L_6, L_7, L_8, L_9, L_10, L_12, L_13, L_20, L_24, L_25, L_26, L_27, L_30, L_32, L_33, L_34, L_40, L_48, L_57, L_58, L_60, L_64, L_90, L_93, L_97, L_99, L_100, L_122, L_144, L_255, L_364, L_480, L_500, L_800, L_1000, L_100000, L_4096, L_1023, L_1024, nLe, nLt, nEq, nI_1, nI_add, pk_mul, nSn, nDn, nCl, zck_nI, zdv_nI, nNeg, nLe0, n0Lt, nEq0, nM1, m1N, m1Lt, nLm1, zcb_0, zcb_1, i10, i01, nEq1, n1Eq, nLt1, gI_eq, gI_nb, gI_na, x_badF, x_badT1, x_badT2, bt_0, bt_1, bit1_u, Bool.true_eq_false, Bool.false_eq_true, eq_self, Int32.or_zero, L_11, L_14, L_15, L_16, L_17, L_18, L_19, L_21, L_22, L_23, L_28, L_29, if_pos, if_neg])) (Or.inr (by rw [gI_eq, f128]; exact e1)) (fun s hs' => Or.inl ⟨by simp (disch := omega) only [Option.bind_some, Option.map_some, zlet_eq, ↓reduceIte, L_2, L_3, L_4, L_5, L_6, L_7, L_8, L_9, L_10, L_12, L_13, L_20, L_24, L_25, L_26, L_27, L_30, L_32, L_33, L_34, L_40, L_48, L_57, L_58, L_60, L_64, L_90, L_93, L_97, L_99, L_100, L_122, L_144, L_255, L_364, L_480, L_500, L_800, L_1000, L_100000, L_4096, L_1023, L_1024, nLe, nLt, nEq, nI_1, nI_add, pk_mul, nSn, nDn, nCl, zck_nI, zdv_nI, nNeg, nLe0, n0Lt, nEq0, nM1, m1N, m1Lt, nLm1, zcb_0, zcb_1, i10, i01, nEq1, n1Eq, nLt1, gI_eq, gI_nb, gI_na, x_badF, x_badT1, x_badT2, bt_0, bt_1, bit1_u, Bool.true_eq_false, Bool.false_eq_true, eq_self, Int32.or_zero, L_11, L_14, L_15, L_16, L_17, L_18, L_19, L_21, L_22, L_23, L_28, L_29, if_pos, if_neg], by simp (disch := omega) only [Option.bind_some, Option.map_some, zlet_eq, ↓reduceIte, L_2, L_3, L_4, L_5, L_6, L_7, L_8, L_9, L_10, L_12, L_13, L_20, L_24, L_25, L_26, L_27, L_30, L_32, L_33, L_34, L_40, L_48, L_57, L_58, L_60, L_64, L_90, L_93, L_97, L_99, L_100, L_122, L_144, L_255, L_364, L_480, L_500, L_800, L_1000, L_100000, L_4096, L_1023, L_1024, nLe, nLt, nEq, nI_1, nI_add, pk_mul, nSn, nDn, nCl, zck_nI, zdv_nI, nNeg, nLe0, n0Lt, nEq0, nM1, m1N, m1Lt, nLm1, zcb_0, zcb_1, i10, i01, nEq1, n1Eq, nLt1, gI_eq, gI_nb, gI_na, x_badF, x_badT1, x_badT2, bt_0, bt_1, bit1_u, Bool.true_eq_false, Bool.false_eq_true, eq_self, Int32.or_zero, L_11, L_14, L_15, L_16, L_17, L_18, L_19, L_21, L_22, L_23, L_28, L_29, if_pos, if_neg]⟩)), ?_⟩
      · show gI (sI r.2 101 9 _) 101 9 = _
        rw [gI_eq]; exact e1
      · show gI (sI r.2 101 9 _) 128 = _
        rw [gIf (by omega), f128]
    · rw [if_neg q, Option.bind_some, zok_some]
      rcases hK.2.2.2.2.2.2.1 with k | k
      · exact absurd k q
      · exact ⟨k, h', rfl⟩
  refine hc.mono fun q ⟨e1, e2, e3⟩ => (r_taken e2).mono fun r ⟨k1, k2⟩ => ⟨⟨P, k2⟩, by rw [k1, e1, e3]⟩
end M78
