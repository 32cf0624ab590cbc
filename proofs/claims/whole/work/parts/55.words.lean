/-! THE MATHEMATICS: words, sure, akin, strangers -/
theorem z_find' {β : Type} (N : Nat) (L : Nat → Nat → Option β) (p : Nat → Bool) (r : Nat → Option β) (fin : Option β)
    (hs : ∀ n i, i < N → N - i ≤ n → L (n + 1) i = if p i then r i else L n (i + 1)) (he : ∀ n, L (n + 1) N = fin) :
    ∀ i n, i ≤ N → N - i < n → L n i = if zff p (N - i) i < N then r (zff p (N - i) i) else fin := by
  have key : ∀ m i n, i + m = N → m < n → L n i = if zff p m i < N then r (zff p m i) else fin := by
    intro m
    induction m with
    | zero =>
      intro i n h1 h2
      obtain ⟨n, rfl⟩ : ∃ k, n = k + 1 := ⟨n - 1, by omega⟩
      obtain rfl : i = N := by omega
      rw [he n, zff, if_neg (by omega)]
    | succ m ih =>
      intro i n h1 h2
      obtain ⟨n, rfl⟩ : ∃ k, n = k + 1 := ⟨n - 1, by omega⟩
      rw [hs n i (by omega) (by omega), ih (i + 1) n (by omega) (by omega), zff]
      by_cases hp : p i = true
      · rw [if_pos hp, if_pos hp, if_pos (by omega)]
      · rw [if_neg hp, if_neg hp]
  intro i n h1 h2
  exact key (N - i) i n (by omega) h2
/-- a set of bits by a test -/
def zset (p : Nat → Bool) (n : Nat) : Int32 := zfo (fun k b => if p k then b ||| bit1 k else b) n 0 0
theorem bt_zset {p : Nat → Bool} : ∀ {n : Nat}, n ≤ 32 → ∀ {i : Nat}, i < 32 → bt (zset p n) i = (decide (i < n) && p i) := by
  intro n
  induction n with
  | zero => intro _ i _; exact b_0 i
  | succ n ih =>
    intro hn i hi
    unfold zset at ih ⊢
    rw [zfo_last, Nat.zero_add]
    by_cases hp : p n = true
    · rw [if_pos hp, b_or, ih (by omega) hi, bt_bit1 n (by omega) i hi]
      by_cases e : i = n
      · subst e; simp [hp]
      · simp [e, show (i < n + 1) ↔ (i < n) by omega]
    · rw [if_neg hp, ih (by omega) hi]
      by_cases e : i = n
      · subst e; simp [hp]
      · simp [show (i < n + 1) ↔ (i < n) by omega]
theorem sMay_set (ns : Nat) (pt : Nat → Int32) (hid p : Int32) (d : Nat) : sMay ns pt hid p d = zset (fun k => decide (pc ((p ^^^ pt k) &&& (hid ^^^ -1)) ≤ d)) ns := by
  unfold sMay zset
  refine zfo_cong fun k s _ _ => ?_
  by_cases h : pc ((p ^^^ pt k) &&& (hid ^^^ -1)) ≤ d
  · rw [if_neg (by omega), if_pos (decide_eq_true h)]
  · rw [if_pos (by omega), if_neg (by simpa using h)]
section M55
variable {D : zD}
/-- the word k: so long as the row, and each part may be its letter -/
def sWok (ns np d : Nat) (pt hd pn : Nat → Int32) (ln : Nat → Int32) (lt : Nat → Nat → Int32) (k : Nat) : Bool := decide (ln k = nI np) && decide (¬ zff (fun i => !bt (sMay ns pt (hd i) (pn i) d) (un (lt k i))) np 0 < np)
theorem c_hid {n k : Nat} (h : gI D 57 1 = nI n) (hn : n ≤ 6) (hk : k < n) : fn_X9_hiddenOf 57 (nI k) D = some (gI D 58 k) ∧ fn_X9_paintOf 57 (nI k) D = some (gI D 59 k) := by
  unfold fn_X9_hiddenOf fn_X9_paintOf
  rw [h]
  constructor
  · simp (disch := omega) only [Option.bind_some, Option.map_some, zlet_eq, ↓reduceIte, L_2, L_3, L_4, L_5, L_6, L_7, L_8, L_9, L_10, L_12, L_13, L_20, L_24, L_25, L_26, L_27, L_30, L_32, L_33, L_34, L_40, L_48, L_57, L_58, L_60, L_64, L_90, L_93, L_97, L_99, L_100, L_122, L_144, L_255, L_364, L_480, L_500, L_800, L_1000, L_100000, L_4096, L_1023, L_1024, nLe, nLt, nEq, nI_1, nI_add, pk_mul, nSn, nDn, nCl, zck_nI, zdv_nI, nNeg, nLe0, n0Lt, nEq0, nM1, m1N, m1Lt, nLm1, zcb_0, zcb_1, i10, i01, nEq1, n1Eq, nLt1, gI_eq, gI_nb, gI_na, x_badF, x_badT1, x_badT2, bt_0, bt_1, bit1_u, Bool.true_eq_false, Bool.false_eq_true, eq_self, Int32.or_zero, if_pos, if_neg]
  · simp (disch := omega) only [Option.bind_some, Option.map_some, zlet_eq, ↓reduceIte, L_2, L_3, L_4, L_5, L_6, L_7, L_8, L_9, L_10, L_12, L_13, L_20, L_24, L_25, L_26, L_27, L_30, L_32, L_33, L_34, L_40, L_48, L_57, L_58, L_60, L_64, L_90, L_93, L_97, L_99, L_100, L_122, L_144, L_255, L_364, L_480, L_500, L_800, L_1000, L_100000, L_4096, L_1023, L_1024, nLe, nLt, nEq, nI_1, nI_add, pk_mul, nSn, nDn, nCl, zck_nI, zdv_nI, nNeg, nLe0, n0Lt, nEq0, nM1, m1N, m1Lt, nLm1, zcb_0, zcb_1, i10, i01, nEq1, n1Eq, nLt1, gI_eq, gI_nb, gI_na, x_badF, x_badT1, x_badT2, bt_0, bt_1, bit1_u, Bool.true_eq_false, Bool.false_eq_true, eq_self, Int32.or_zero, if_pos, if_neg]
theorem c_rowMayBe {P : Nat → Nat} (h : iv P D) {k : Nat} (hk : k < P 3) (hl : gI D 109 k = nI (P 6)) : fn_X11_rowMayBe (nI k) D = some (if zff (fun i => !bt (sMay (P 2) (gI D 105) (gI D (163 + i) 0) (gI D (163 + i) 1) (P 5)) (un (gI D (120 + k) i))) (P 6) 0 < P 6 then 0 else 1) := by
  obtain ⟨⟨⟨hb, ⟨a0, a1, a2, a3⟩, ⟨b0, b1, b2, b3⟩, hs, hw⟩, ⟨hc, c1, c2, hcv⟩, ⟨hd, ⟨z0, z1, z2⟩, ⟨y0, y1, y2⟩, hp, ht⟩, ⟨hi, i0, i1, him⟩, ⟨hta, ta0, ta1, hpl, htb⟩⟩, hK, hO⟩ := h
  replace y0 : gI _ 102 34 = nI (P 5) := y0
  replace y1 : gI _ 102 35 = nI (P 6) := y1
  replace y2 : gI _ 102 36 = nI (P 7) := y2
  obtain ⟨l, l1, l6, w1, w2, w3⟩ := hw k hk
  have e : l = P 6 := by rw [w2] at hl; exact (nI_eq (by omega) (by omega)).mp hl
  refine Eq.trans (z_find (P 6) (fun n i => fn_X11_rowMayBe_2 (nI k) D n (nI i)) (fun i => !bt (sMay (P 2) (gI D 105) (gI D (163 + i) 0) (gI D (163 + i) 1) (P 5)) (un (gI D (120 + k) i))) (fun _ => some 0) (some 1) ?_ ?_ 0 zFU (Nat.zero_le _) (zfu_gt (by omega))) ?_
  · intro n i hi'
    show fn_X11_rowMayBe_2 (nI k) D (n + 1) (nI i) = if _ then _ else fn_X11_rowMayBe_2 (nI k) D n (nI (i + 1))
    obtain ⟨s, hs2, w4, w5⟩ := w3 i (by omega)
    obtain ⟨q1, q2⟩ := hp i hi'
    rw [(rS_p D (show i < 6 by omega)).1] at q1
    rw [(rS_p D (show i < 6 by omega)).2] at q2
    rw [fn_X11_rowMayBe_2, z1, (c_hid z1 (by omega) hi').1, (c_hid z1 (by omega) hi').2, z0, Option.bind_some, Option.bind_some, c_within a2 (by omega) _ _ (by omega), v_let a3 hk (by omega) w1 (show i < l by omega) l6, w4, w5, un_nI (by omega), q1, q2, sMay_cong fun s hs' => (hs s hs').1]
    cases hB : bt (sMay (P 2) (gI D 105) (gI D (163 + i) 0) (gI D (163 + i) 1) (P 5)) s
    · simp (disch := omega) only [Option.bind_some, Option.map_some, zlet_eq, ↓reduceIte, L_2, L_3, L_4, L_5, L_6, L_7, L_8, L_9, L_10, L_12, L_13, L_20, L_24, L_25, L_26, L_27, L_30, L_32, L_33, L_34, L_40, L_48, L_57, L_58, L_60, L_64, L_90, L_93, L_97, L_99, L_100, L_122, L_144, L_255, L_364, L_480, L_500, L_800, L_1000, L_100000, L_4096, L_1023, L_1024, nLe, nLt, nEq, nI_1, nI_add, pk_mul, nSn, nDn, nCl, zck_nI, zdv_nI, nNeg, nLe0, n0Lt, nEq0, nM1, m1N, m1Lt, nLm1, zcb_0, zcb_1, i10, i01, nEq1, n1Eq, nLt1, gI_eq, gI_nb, gI_na, x_badF, x_badT1, x_badT2, bt_0, bt_1, bit1_u, Bool.true_eq_false, Bool.false_eq_true, eq_self, Int32.or_zero, if_pos, if_neg, hB, Bool.not_false]
    · simp (disch := omega) only [Option.bind_some, Option.map_some, zlet_eq, ↓reduceIte, L_2, L_3, L_4, L_5, L_6, L_7, L_8, L_9, L_10, L_12, L_13, L_20, L_24, L_25, L_26, L_27, L_30, L_32, L_33, L_34, L_40, L_48, L_57, L_58, L_60, L_64, L_90, L_93, L_97, L_99, L_100, L_122, L_144, L_255, L_364, L_480, L_500, L_800, L_1000, L_100000, L_4096, L_1023, L_1024, nLe, nLt, nEq, nI_1, nI_add, pk_mul, nSn, nDn, nCl, zck_nI, zdv_nI, nNeg, nLe0, n0Lt, nEq0, nM1, m1N, m1Lt, nLm1, zcb_0, zcb_1, i10, i01, nEq1, n1Eq, nLt1, gI_eq, gI_nb, gI_na, x_badF, x_badT1, x_badT2, bt_0, bt_1, bit1_u, Bool.true_eq_false, Bool.false_eq_true, eq_self, Int32.or_zero, if_pos, if_neg, hB, Bool.not_true]
  · intro n
    show fn_X11_rowMayBe_2 (nI k) D (n + 1) (nI (P 6)) = _
    rw [fn_X11_rowMayBe_2, z1]
    simp (disch := omega) only [Option.bind_some, Option.map_some, zlet_eq, ↓reduceIte, L_2, L_3, L_4, L_5, L_6, L_7, L_8, L_9, L_10, L_12, L_13, L_20, L_24, L_25, L_26, L_27, L_30, L_32, L_33, L_34, L_40, L_48, L_57, L_58, L_60, L_64, L_90, L_93, L_97, L_99, L_100, L_122, L_144, L_255, L_364, L_480, L_500, L_800, L_1000, L_100000, L_4096, L_1023, L_1024, nLe, nLt, nEq, nI_1, nI_add, pk_mul, nSn, nDn, nCl, zck_nI, zdv_nI, nNeg, nLe0, n0Lt, nEq0, nM1, m1N, m1Lt, nLm1, zcb_0, zcb_1, i10, i01, nEq1, n1Eq, nLt1, gI_eq, gI_nb, gI_na, x_badF, x_badT1, x_badT2, bt_0, bt_1, bit1_u, Bool.true_eq_false, Bool.false_eq_true, eq_self, Int32.or_zero, if_pos, if_neg]
  · rw [Nat.sub_zero]
    split <;> rfl
def sWords (P : Nat → Nat) (D : zD) : Int32 := zset (sWok (P 2) (P 6) (P 5) (gI D 105) (fun i => gI D (163 + i) 0) (fun i => gI D (163 + i) 1) (gI D 109) (fun k i => gI D (120 + k) i)) (P 3)
theorem c_rowWords {P : Nat → Nat} (h : iv P D) : fn_X11_words D = some (sWords P D) := by
  have h' := h
  obtain ⟨⟨⟨hb, ⟨a0, a1, a2, a3⟩, ⟨b0, b1, b2, b3⟩, hs, hw⟩, ⟨hc, c1, c2, hcv⟩, ⟨hd, ⟨z0, z1, z2⟩, ⟨y0, y1, y2⟩, hp, ht⟩, ⟨hi, i0, i1, him⟩, ⟨hta, ta0, ta1, hpl, htb⟩⟩, hK, hO⟩ := h
  replace y0 : gI _ 102 34 = nI (P 5) := y0
  replace y1 : gI _ 102 35 = nI (P 6) := y1
  replace y2 : gI _ 102 36 = nI (P 7) := y2
  refine z_for (P 3) (fun n i b => fn_X11_words_4 D n b (nI i)) _ some ?_ ?_ 0 zFU 0 (Nat.zero_le _) (zfu_gt (by omega))
  · intro n k b hk
    show fn_X11_words_4 D (n + 1) b (nI k) = fn_X11_words_4 D n _ (nI (k + 1))
    obtain ⟨l, l1, l6, w1, w2, w3⟩ := hw k hk
    rw [fn_X11_words_4, a3, v_len a3 hk (by omega), w1, z1]
    unfold sWok
    rw [w2]
    by_cases e : l = P 6
    · have hm := c_rowMayBe h' hk (by rw [w2, e])
      by_cases g : zff (fun i => !bt (sMay (P 2) (gI D 105) (gI D (163 + i) 0) (gI D (163 + i) 1) (P 5)) (un (gI D (120 + k) i))) (P 6) 0 < P 6
      · rw [if_pos g] at hm
        simp (disch := omega) only [Option.bind_some, Option.map_some, zlet_eq, ↓reduceIte, L_2, L_3, L_4, L_5, L_6, L_7, L_8, L_9, L_10, L_12, L_13, L_20, L_24, L_25, L_26, L_27, L_30, L_32, L_33, L_34, L_40, L_48, L_57, L_58, L_60, L_64, L_90, L_93, L_97, L_99, L_100, L_122, L_144, L_255, L_364, L_480, L_500, L_800, L_1000, L_100000, L_4096, L_1023, L_1024, nLe, nLt, nEq, nI_1, nI_add, pk_mul, nSn, nDn, nCl, zck_nI, zdv_nI, nNeg, nLe0, n0Lt, nEq0, nM1, m1N, m1Lt, nLm1, zcb_0, zcb_1, i10, i01, nEq1, n1Eq, nLt1, gI_eq, gI_nb, gI_na, x_badF, x_badT1, x_badT2, bt_0, bt_1, bit1_u, Bool.true_eq_false, Bool.false_eq_true, eq_self, Int32.or_zero, if_pos, if_neg, hm, e, decide_true, decide_false, g, Bool.and_false, not_true, not_false_eq_true]
      · rw [if_neg g] at hm
        simp (disch := omega) only [Option.bind_some, Option.map_some, zlet_eq, ↓reduceIte, L_2, L_3, L_4, L_5, L_6, L_7, L_8, L_9, L_10, L_12, L_13, L_20, L_24, L_25, L_26, L_27, L_30, L_32, L_33, L_34, L_40, L_48, L_57, L_58, L_60, L_64, L_90, L_93, L_97, L_99, L_100, L_122, L_144, L_255, L_364, L_480, L_500, L_800, L_1000, L_100000, L_4096, L_1023, L_1024, nLe, nLt, nEq, nI_1, nI_add, pk_mul, nSn, nDn, nCl, zck_nI, zdv_nI, nNeg, nLe0, n0Lt, nEq0, nM1, m1N, m1Lt, nLm1, zcb_0, zcb_1, i10, i01, nEq1, n1Eq, nLt1, gI_eq, gI_nb, gI_na, x_badF, x_badT1, x_badT2, bt_0, bt_1, bit1_u, Bool.true_eq_false, Bool.false_eq_true, eq_self, Int32.or_zero, if_pos, if_neg, hm, e, decide_true, g, Bool.and_true, not_false_eq_true]
    · simp (disch := omega) only [Option.bind_some, Option.map_some, zlet_eq, ↓reduceIte, L_2, L_3, L_4, L_5, L_6, L_7, L_8, L_9, L_10, L_12, L_13, L_20, L_24, L_25, L_26, L_27, L_30, L_32, L_33, L_34, L_40, L_48, L_57, L_58, L_60, L_64, L_90, L_93, L_97, L_99, L_100, L_122, L_144, L_255, L_364, L_480, L_500, L_800, L_1000, L_100000, L_4096, L_1023, L_1024, nLe, nLt, nEq, nI_1, nI_add, pk_mul, nSn, nDn, nCl, zck_nI, zdv_nI, nNeg, nLe0, n0Lt, nEq0, nM1, m1N, m1Lt, nLm1, zcb_0, zcb_1, i10, i01, nEq1, n1Eq, nLt1, gI_eq, gI_nb, gI_na, x_badF, x_badT1, x_badT2, bt_0, bt_1, bit1_u, Bool.true_eq_false, Bool.false_eq_true, eq_self, Int32.or_zero, if_pos, if_neg, decide_eq_false e, Bool.false_and]
  · intro n b
    show fn_X11_words_4 D (n + 1) b (nI (P 3)) = _
    rw [fn_X11_words_4, a3]
    simp (disch := omega) only [Option.bind_some, Option.map_some, zlet_eq, ↓reduceIte, L_2, L_3, L_4, L_5, L_6, L_7, L_8, L_9, L_10, L_12, L_13, L_20, L_24, L_25, L_26, L_27, L_30, L_32, L_33, L_34, L_40, L_48, L_57, L_58, L_60, L_64, L_90, L_93, L_97, L_99, L_100, L_122, L_144, L_255, L_364, L_480, L_500, L_800, L_1000, L_100000, L_4096, L_1023, L_1024, nLe, nLt, nEq, nI_1, nI_add, pk_mul, nSn, nDn, nCl, zck_nI, zdv_nI, nNeg, nLe0, n0Lt, nEq0, nM1, m1N, m1Lt, nLm1, zcb_0, zcb_1, i10, i01, nEq1, n1Eq, nLt1, gI_eq, gI_nb, gI_na, x_badF, x_badT1, x_badT2, bt_0, bt_1, bit1_u, Bool.true_eq_false, Bool.false_eq_true, eq_self, Int32.or_zero, if_pos, if_neg]
theorem r_wordsOf {P : Nat → Nat} (h : iv P D) : fn_X12_wordsOf D = some (sWords P D) := by
  obtain ⟨⟨⟨hb, ⟨a0, a1, a2, a3⟩, ⟨b0, b1, b2, b3⟩, hs, hw⟩, ⟨hc, c1, c2, hcv⟩, ⟨hd, ⟨z0, z1, z2⟩, ⟨y0, y1, y2⟩, hp, ht⟩, ⟨hi, i0, i1, him⟩, ⟨hta, ta0, ta1, hpl, htb⟩⟩, hK, hO⟩ := h
  replace y0 : gI _ 102 34 = nI (P 5) := y0
  replace y1 : gI _ 102 35 = nI (P 6) := y1
  replace y2 : gI _ 102 36 = nI (P 7) := y2
  refine z_for (P 3) (fun n i b => fn_X12_wordsOf_4 D n b (nI i)) _ some ?_ ?_ 0 zFU 0 (Nat.zero_le _) (zfu_gt (by omega))
  · intro n k b hk
    show fn_X12_wordsOf_4 D (n + 1) b (nI k) = fn_X12_wordsOf_4 D n _ (nI (k + 1))
    obtain ⟨l, l1, l6, w1, w2, w3⟩ := hw k hk
    have f0 : ∀ m i, fn_X12_wordsOf_34 D (fn_X12_wordsOf_4 D n) (m + 1) b (nI k) 0 (nI i) = fn_X12_wordsOf_4 D n b (nI (k + 1)) := by
      intro m i
      rw [fn_X12_wordsOf_34]
      unfold fn_X12_wordsOf_97
      simp (disch := omega) only [Option.bind_some, Option.map_some, zlet_eq, ↓reduceIte, L_2, L_3, L_4, L_5, L_6, L_7, L_8, L_9, L_10, L_12, L_13, L_20, L_24, L_25, L_26, L_27, L_30, L_32, L_33, L_34, L_40, L_48, L_57, L_58, L_60, L_64, L_90, L_93, L_97, L_99, L_100, L_122, L_144, L_255, L_364, L_480, L_500, L_800, L_1000, L_100000, L_4096, L_1023, L_1024, nLe, nLt, nEq, nI_1, nI_add, pk_mul, nSn, nDn, nCl, zck_nI, zdv_nI, nNeg, nLe0, n0Lt, nEq0, nM1, m1N, m1Lt, nLm1, zcb_0, zcb_1, i10, i01, nEq1, n1Eq, nLt1, gI_eq, gI_nb, gI_na, x_badF, x_badT1, x_badT2, bt_0, bt_1, bit1_u, Bool.true_eq_false, Bool.false_eq_true, eq_self, Int32.or_zero, if_pos, if_neg, ite_self]
    have f1 : l = P 6 → fn_X12_wordsOf_34 D (fn_X12_wordsOf_4 D n) zFU b (nI k) 1 0 = if zff (fun i => !bt (sMay (P 2) (gI D 105) (gI D (163 + i) 0) (gI D (163 + i) 1) (P 5)) (un (gI D (120 + k) i))) (P 6) 0 < P 6 then fn_X12_wordsOf_4 D n b (nI (k + 1)) else fn_X12_wordsOf_4 D n (b ||| bit1 k) (nI (k + 1)) := by
      intro e
      refine Eq.trans (z_find' (P 6) (fun m i => fn_X12_wordsOf_34 D (fn_X12_wordsOf_4 D n) m b (nI k) 1 (nI i)) (fun i => !bt (sMay (P 2) (gI D 105) (gI D (163 + i) 0) (gI D (163 + i) 1) (P 5)) (un (gI D (120 + k) i))) (fun _ => fn_X12_wordsOf_4 D n b (nI (k + 1))) (fn_X12_wordsOf_4 D n (b ||| bit1 k) (nI (k + 1))) ?_ ?_ 0 zFU (Nat.zero_le _) (zfu_gt (by omega))) ?_
      · intro m i hi' hm
        obtain ⟨m, rfl⟩ : ∃ q, m = q + 1 := ⟨m - 1, by omega⟩
        show fn_X12_wordsOf_34 D (fn_X12_wordsOf_4 D n) (m + 1 + 1) b (nI k) 1 (nI i) = if _ then _ else fn_X12_wordsOf_34 D (fn_X12_wordsOf_4 D n) (m + 1) b (nI k) 1 (nI (i + 1))
        obtain ⟨s, hs2, w4, w5⟩ := w3 i (by omega)
        rw [fn_X12_wordsOf_34, y1, w5, un_nI (by omega)]
        cases hB : bt (sMay (P 2) (gI D 105) (gI D (163 + i) 0) (gI D (163 + i) 1) (P 5)) s
        · simp (disch := omega) only [Option.bind_some, Option.map_some, zlet_eq, ↓reduceIte, L_2, L_3, L_4, L_5, L_6, L_7, L_8, L_9, L_10, L_12, L_13, L_20, L_24, L_25, L_26, L_27, L_30, L_32, L_33, L_34, L_40, L_48, L_57, L_58, L_60, L_64, L_90, L_93, L_97, L_99, L_100, L_122, L_144, L_255, L_364, L_480, L_500, L_800, L_1000, L_100000, L_4096, L_1023, L_1024, nLe, nLt, nEq, nI_1, nI_add, pk_mul, nSn, nDn, nCl, zck_nI, zdv_nI, nNeg, nLe0, n0Lt, nEq0, nM1, m1N, m1Lt, nLm1, zcb_0, zcb_1, i10, i01, nEq1, n1Eq, nLt1, gI_eq, gI_nb, gI_na, x_badF, x_badT1, x_badT2, bt_0, bt_1, bit1_u, Bool.true_eq_false, Bool.false_eq_true, eq_self, Int32.or_zero, if_pos, if_neg, r_mayBe b2 hb.2.2.2.2.1 (d := P 5) (by omega) y0, w5, hB, Bool.not_false, f0]
        · simp (disch := omega) only [Option.bind_some, Option.map_some, zlet_eq, ↓reduceIte, L_2, L_3, L_4, L_5, L_6, L_7, L_8, L_9, L_10, L_12, L_13, L_20, L_24, L_25, L_26, L_27, L_30, L_32, L_33, L_34, L_40, L_48, L_57, L_58, L_60, L_64, L_90, L_93, L_97, L_99, L_100, L_122, L_144, L_255, L_364, L_480, L_500, L_800, L_1000, L_100000, L_4096, L_1023, L_1024, nLe, nLt, nEq, nI_1, nI_add, pk_mul, nSn, nDn, nCl, zck_nI, zdv_nI, nNeg, nLe0, n0Lt, nEq0, nM1, m1N, m1Lt, nLm1, zcb_0, zcb_1, i10, i01, nEq1, n1Eq, nLt1, gI_eq, gI_nb, gI_na, x_badF, x_badT1, x_badT2, bt_0, bt_1, bit1_u, Bool.true_eq_false, Bool.false_eq_true, eq_self, Int32.or_zero, if_pos, if_neg, r_mayBe b2 hb.2.2.2.2.1 (d := P 5) (by omega) y0, w5, hB, Bool.not_true]
      · intro m
        show fn_X12_wordsOf_34 D (fn_X12_wordsOf_4 D n) (m + 1) b (nI k) 1 (nI (P 6)) = _
        rw [fn_X12_wordsOf_34, y1]
        unfold fn_X12_wordsOf_97
        simp (disch := omega) only [Option.bind_some, Option.map_some, zlet_eq, ↓reduceIte, L_2, L_3, L_4, L_5, L_6, L_7, L_8, L_9, L_10, L_12, L_13, L_20, L_24, L_25, L_26, L_27, L_30, L_32, L_33, L_34, L_40, L_48, L_57, L_58, L_60, L_64, L_90, L_93, L_97, L_99, L_100, L_122, L_144, L_255, L_364, L_480, L_500, L_800, L_1000, L_100000, L_4096, L_1023, L_1024, nLe, nLt, nEq, nI_1, nI_add, pk_mul, nSn, nDn, nCl, zck_nI, zdv_nI, nNeg, nLe0, n0Lt, nEq0, nM1, m1N, m1Lt, nLm1, zcb_0, zcb_1, i10, i01, nEq1, n1Eq, nLt1, gI_eq, gI_nb, gI_na, x_badF, x_badT1, x_badT2, bt_0, bt_1, bit1_u, Bool.true_eq_false, Bool.false_eq_true, eq_self, Int32.or_zero, if_pos, if_neg]
      · rw [Nat.sub_zero]
    rw [fn_X12_wordsOf_4, b3, y1]
    unfold sWok
    rw [w2]
    by_cases e : l = P 6
    · by_cases g : zff (fun i => !bt (sMay (P 2) (gI D 105) (gI D (163 + i) 0) (gI D (163 + i) 1) (P 5)) (un (gI D (120 + k) i))) (P 6) 0 < P 6
      · simp (disch := omega) only [Option.bind_some, Option.map_some, zlet_eq, ↓reduceIte, L_2, L_3, L_4, L_5, L_6, L_7, L_8, L_9, L_10, L_12, L_13, L_20, L_24, L_25, L_26, L_27, L_30, L_32, L_33, L_34, L_40, L_48, L_57, L_58, L_60, L_64, L_90, L_93, L_97, L_99, L_100, L_122, L_144, L_255, L_364, L_480, L_500, L_800, L_1000, L_100000, L_4096, L_1023, L_1024, nLe, nLt, nEq, nI_1, nI_add, pk_mul, nSn, nDn, nCl, zck_nI, zdv_nI, nNeg, nLe0, n0Lt, nEq0, nM1, m1N, m1Lt, nLm1, zcb_0, zcb_1, i10, i01, nEq1, n1Eq, nLt1, gI_eq, gI_nb, gI_na, x_badF, x_badT1, x_badT2, bt_0, bt_1, bit1_u, Bool.true_eq_false, Bool.false_eq_true, eq_self, Int32.or_zero, if_pos, if_neg, w2, e, f1 e, decide_true, decide_false, g, Bool.and_false, not_true, not_false_eq_true]
      · simp (disch := omega) only [Option.bind_some, Option.map_some, zlet_eq, ↓reduceIte, L_2, L_3, L_4, L_5, L_6, L_7, L_8, L_9, L_10, L_12, L_13, L_20, L_24, L_25, L_26, L_27, L_30, L_32, L_33, L_34, L_40, L_48, L_57, L_58, L_60, L_64, L_90, L_93, L_97, L_99, L_100, L_122, L_144, L_255, L_364, L_480, L_500, L_800, L_1000, L_100000, L_4096, L_1023, L_1024, nLe, nLt, nEq, nI_1, nI_add, pk_mul, nSn, nDn, nCl, zck_nI, zdv_nI, nNeg, nLe0, n0Lt, nEq0, nM1, m1N, m1Lt, nLm1, zcb_0, zcb_1, i10, i01, nEq1, n1Eq, nLt1, gI_eq, gI_nb, gI_na, x_badF, x_badT1, x_badT2, bt_0, bt_1, bit1_u, Bool.true_eq_false, Bool.false_eq_true, eq_self, Int32.or_zero, if_pos, if_neg, w2, e, f1 e, decide_true, g, Bool.and_true, not_false_eq_true]
    · have f2 : fn_X12_wordsOf_34 D (fn_X12_wordsOf_4 D n) zFU b (nI k) 0 0 = _ := f0 4294967295 0
      simp (disch := omega) only [Option.bind_some, Option.map_some, zlet_eq, ↓reduceIte, L_2, L_3, L_4, L_5, L_6, L_7, L_8, L_9, L_10, L_12, L_13, L_20, L_24, L_25, L_26, L_27, L_30, L_32, L_33, L_34, L_40, L_48, L_57, L_58, L_60, L_64, L_90, L_93, L_97, L_99, L_100, L_122, L_144, L_255, L_364, L_480, L_500, L_800, L_1000, L_100000, L_4096, L_1023, L_1024, nLe, nLt, nEq, nI_1, nI_add, pk_mul, nSn, nDn, nCl, zck_nI, zdv_nI, nNeg, nLe0, n0Lt, nEq0, nM1, m1N, m1Lt, nLm1, zcb_0, zcb_1, i10, i01, nEq1, n1Eq, nLt1, gI_eq, gI_nb, gI_na, x_badF, x_badT1, x_badT2, bt_0, bt_1, bit1_u, Bool.true_eq_false, Bool.false_eq_true, eq_self, Int32.or_zero, if_pos, if_neg, w2, f2, decide_eq_false e, Bool.false_and]
  · intro n b
    show fn_X12_wordsOf_4 D (n + 1) b (nI (P 3)) = _
    rw [fn_X12_wordsOf_4, b3]
    simp (disch := omega) only [Option.bind_some, Option.map_some, zlet_eq, ↓reduceIte, L_2, L_3, L_4, L_5, L_6, L_7, L_8, L_9, L_10, L_12, L_13, L_20, L_24, L_25, L_26, L_27, L_30, L_32, L_33, L_34, L_40, L_48, L_57, L_58, L_60, L_64, L_90, L_93, L_97, L_99, L_100, L_122, L_144, L_255, L_364, L_480, L_500, L_800, L_1000, L_100000, L_4096, L_1023, L_1024, nLe, nLt, nEq, nI_1, nI_add, pk_mul, nSn, nDn, nCl, zck_nI, zdv_nI, nNeg, nLe0, n0Lt, nEq0, nM1, m1N, m1Lt, nLm1, zcb_0, zcb_1, i10, i01, nEq1, n1Eq, nLt1, gI_eq, gI_nb, gI_na, x_badF, x_badT1, x_badT2, bt_0, bt_1, bit1_u, Bool.true_eq_false, Bool.false_eq_true, eq_self, Int32.or_zero, if_pos, if_neg]
end M55
