/-! THE MATHEMATICS: akin, strangers -/
theorem z_fori {σ β : Type} (N : Nat) (L : Nat → Nat → σ → Option β) (f : Nat → σ → σ) (fin : σ → Option β) (I : Nat → σ → Prop)
    (hs : ∀ n i s, i < N → I i s → L (n + 1) i s = L n (i + 1) (f i s) ∧ I (i + 1) (f i s)) (he : ∀ n s, I N s → L (n + 1) N s = fin s) :
    ∀ i n s, i ≤ N → N - i < n → I i s → L n i s = fin (zfo f (N - i) i s) := by
  have key : ∀ m i n s, i + m = N → m < n → I i s → L n i s = fin (zfo f m i s) := by
    intro m
    induction m with
    | zero =>
      intro i n s h1 h2 h3
      obtain ⟨n, rfl⟩ : ∃ k, n = k + 1 := ⟨n - 1, by omega⟩
      obtain rfl : i = N := by omega
      exact he n s h3
    | succ m ih =>
      intro i n s h1 h2 h3
      obtain ⟨n, rfl⟩ : ∃ k, n = k + 1 := ⟨n - 1, by omega⟩
      obtain ⟨a, b⟩ := hs n i s (by omega) h3
      rw [a, ih (i + 1) n _ (by omega) (by omega) b, zfo]
  intro i n s h1 h2 h3
  exact key (N - i) i n s (by omega) h2 h3
def fAk (f : Int32) (pt fm : Nat → Int32) (s o : Nat) (b : Int32 × Int32) : Int32 × Int32 := if fm s = f ∧ fm o = f ∧ b.2 < nI (pc (pt s ^^^ pt o)) then (nI (100 * s + o), nI (pc (pt s ^^^ pt o))) else b
def sAk (ns : Nat) (f : Int32) (pt fm : Nat → Int32) : Int32 × Int32 := zfo (fun s b => zfo (fAk f pt fm s) (ns - (s + 1)) (s + 1) b) ns 0 (-1, -1)
theorem sAk_cong {ns : Nat} {f : Int32} {pt fm qt gm : Nat → Int32} (h : ∀ s, s < ns → pt s = qt s ∧ fm s = gm s) : sAk ns f pt fm = sAk ns f qt gm := by
  unfold sAk
  refine zfo_cong fun s b _ h2 => zfo_cong fun o b h3 h4 => ?_
  unfold fAk
  rw [(h s (by omega)).1, (h s (by omega)).2, (h o (by omega)).1, (h o (by omega)).2]
theorem sAk_form (ns : Nat) (f : Int32) (pt fm : Nat → Int32) : sAk ns f pt fm = (-1, -1) ∨ ∃ s o, s < o ∧ o < ns ∧ sAk ns f pt fm = (nI (100 * s + o), nI (pc (pt s ^^^ pt o))) := by
  unfold sAk
  refine zfo_inv (N := ns) (fun _ b => b = (-1, -1) ∨ ∃ s o, s < o ∧ o < ns ∧ b = (nI (100 * s + o), nI (pc (pt s ^^^ pt o)))) (fun s b hs hb => ?_) (by omega) (Or.inl rfl)
  refine zfo_inv (N := ns) (fun k b => s < k ∧ (b = (-1, -1) ∨ ∃ s o, s < o ∧ o < ns ∧ b = (nI (100 * s + o), nI (pc (pt s ^^^ pt o))))) (fun o b ho hb => ?_) (by omega) ⟨by omega, hb⟩ |>.2
  refine ⟨by omega, ?_⟩
  unfold fAk
  split
  · exact Or.inr ⟨s, o, hb.1, ho, rfl⟩
  · exact hb.2
section M57
variable {D : zD} {P : Nat → Nat}
theorem v_unlike {a ns : Nat} (h : gI D a 2 = nI ns) {s o : Nat} (hs : s < ns) (ho : o < ns) (hn : ns ≤ 12) : fn_X0_unlikeCells a (nI s) (nI o) D = some (nI (pc (gI D (a + 1) s ^^^ gI D (a + 1) o))) := by
  unfold fn_X0_unlikeCells
  simp (disch := omega) only [Option.bind_some, Option.map_some, zlet_eq, ↓reduceIte, L_2, L_3, L_4, L_5, L_6, L_7, L_8, L_9, L_10, L_12, L_13, L_20, L_24, L_25, L_26, L_27, L_30, L_32, L_33, L_34, L_40, L_48, L_57, L_58, L_60, L_64, L_90, L_93, L_97, L_99, L_100, L_122, L_144, L_255, L_364, L_480, L_500, L_800, L_1000, L_100000, L_4096, L_1023, L_1024, nLe, nLt, nEq, nI_1, nI_add, pk_mul, nSn, nDn, nCl, zck_nI, zdv_nI, nNeg, nLe0, n0Lt, nEq0, nM1, m1N, m1Lt, nLm1, zcb_0, zcb_1, i10, i01, nEq1, n1Eq, nLt1, gI_eq, gI_nb, gI_na, x_badF, x_badT1, x_badT2, bt_0, bt_1, bit1_u, Bool.true_eq_false, Bool.false_eq_true, eq_self, Int32.or_zero, v_paint h hs hn, v_paint h ho hn, pc_bit]
theorem c_pair {a ns : Nat} (h : gI D a 2 = nI ns) (hn : ns ≤ 12) (f : Int32) : fn_X0_unlikestPair a f D = some (sAk ns f (gI D (a + 1)) (gI D (a + 2))).1 := by
  refine z_for ns (fun n s (b : Int32 × Int32) => fn_X0_unlikestPair_7 a f D n b.1 b.2 (nI s)) (fun s b => zfo (fAk f (gI D (a + 1)) (gI D (a + 2)) s) (ns - (s + 1)) (s + 1) b) (fun b => some b.1) ?_ ?_ 0 zFU (-1, -1) (Nat.zero_le _) (zfu_gt (by omega))
  · rintro n s b hs
    show fn_X0_unlikestPair_7 a f D (n + 1) b.1 b.2 (nI s) = _
    rw [fn_X0_unlikestPair_7, h]
    simp (disch := omega) only [Option.bind_some, Option.map_some, zlet_eq, ↓reduceIte, L_2, L_3, L_4, L_5, L_6, L_7, L_8, L_9, L_10, L_12, L_13, L_20, L_24, L_25, L_26, L_27, L_30, L_32, L_33, L_34, L_40, L_48, L_57, L_58, L_60, L_64, L_90, L_93, L_97, L_99, L_100, L_122, L_144, L_255, L_364, L_480, L_500, L_800, L_1000, L_100000, L_4096, L_1023, L_1024, nLe, nLt, nEq, nI_1, nI_add, pk_mul, nSn, nDn, nCl, zck_nI, zdv_nI, nNeg, nLe0, n0Lt, nEq0, nM1, m1N, m1Lt, nLm1, zcb_0, zcb_1, i10, i01, nEq1, n1Eq, nLt1, gI_eq, gI_nb, gI_na, x_badF, x_badT1, x_badT2, bt_0, bt_1, bit1_u, Bool.true_eq_false, Bool.false_eq_true, eq_self, Int32.or_zero, if_pos, if_neg]
    refine z_for ns (fun m o (b : Int32 × Int32) => fn_X0_unlikestPair_22 a f D (fn_X0_unlikestPair_7 a f D n) m b.1 b.2 (nI s) (nI o)) (fAk f (gI D (a + 1)) (gI D (a + 2)) s) (fun b => fn_X0_unlikestPair_7 a f D n b.1 b.2 (nI (s + 1))) ?_ ?_ (s + 1) zFU b (by omega) (zfu_gt (by omega))
    · rintro m o ⟨x, y⟩ ho
      show fn_X0_unlikestPair_22 a f D (fn_X0_unlikestPair_7 a f D n) (m + 1) x y (nI s) (nI o) = fn_X0_unlikestPair_22 a f D (fn_X0_unlikestPair_7 a f D n) m (fAk _ _ _ s o (x, y)).1 (fAk _ _ _ s o (x, y)).2 (nI s) (nI (o + 1))
      rw [fn_X0_unlikestPair_22, h]
      unfold fAk
      by_cases h1 : gI D (a + 2) s = f
      · by_cases h2 : gI D (a + 2) o = f
        · by_cases h3 : y < nI (pc (gI D (a + 1) s ^^^ gI D (a + 1) o))
          · simp (disch := omega) only [Option.bind_some, Option.map_some, zlet_eq, ↓reduceIte, L_2, L_3, L_4, L_5, L_6, L_7, L_8, L_9, L_10, L_12, L_13, L_20, L_24, L_25, L_26, L_27, L_30, L_32, L_33, L_34, L_40, L_48, L_57, L_58, L_60, L_64, L_90, L_93, L_97, L_99, L_100, L_122, L_144, L_255, L_364, L_480, L_500, L_800, L_1000, L_100000, L_4096, L_1023, L_1024, nLe, nLt, nEq, nI_1, nI_add, pk_mul, nSn, nDn, nCl, zck_nI, zdv_nI, nNeg, nLe0, n0Lt, nEq0, nM1, m1N, m1Lt, nLm1, zcb_0, zcb_1, i10, i01, nEq1, n1Eq, nLt1, gI_eq, gI_nb, gI_na, x_badF, x_badT1, x_badT2, bt_0, bt_1, bit1_u, Bool.true_eq_false, Bool.false_eq_true, eq_self, Int32.or_zero, if_pos, if_neg, v_fam h hs hn, v_fam h ho hn, h1, h2, v_unlike h hs ho hn, Int32.not_le, if_neg (show ¬ nI (pc (gI D (a + 1) s ^^^ gI D (a + 1) o)) ≤ y from Int32.not_le.mpr h3), h3, true_and, and_true, if_true]
          · simp (disch := omega) only [Option.bind_some, Option.map_some, zlet_eq, ↓reduceIte, L_2, L_3, L_4, L_5, L_6, L_7, L_8, L_9, L_10, L_12, L_13, L_20, L_24, L_25, L_26, L_27, L_30, L_32, L_33, L_34, L_40, L_48, L_57, L_58, L_60, L_64, L_90, L_93, L_97, L_99, L_100, L_122, L_144, L_255, L_364, L_480, L_500, L_800, L_1000, L_100000, L_4096, L_1023, L_1024, nLe, nLt, nEq, nI_1, nI_add, pk_mul, nSn, nDn, nCl, zck_nI, zdv_nI, nNeg, nLe0, n0Lt, nEq0, nM1, m1N, m1Lt, nLm1, zcb_0, zcb_1, i10, i01, nEq1, n1Eq, nLt1, gI_eq, gI_nb, gI_na, x_badF, x_badT1, x_badT2, bt_0, bt_1, bit1_u, Bool.true_eq_false, Bool.false_eq_true, eq_self, Int32.or_zero, if_pos, if_neg, v_fam h hs hn, v_fam h ho hn, h1, h2, v_unlike h hs ho hn, if_pos (Int32.not_lt.mp h3), h3, true_and, and_false, if_false]
        · simp (disch := omega) only [Option.bind_some, Option.map_some, zlet_eq, ↓reduceIte, L_2, L_3, L_4, L_5, L_6, L_7, L_8, L_9, L_10, L_12, L_13, L_20, L_24, L_25, L_26, L_27, L_30, L_32, L_33, L_34, L_40, L_48, L_57, L_58, L_60, L_64, L_90, L_93, L_97, L_99, L_100, L_122, L_144, L_255, L_364, L_480, L_500, L_800, L_1000, L_100000, L_4096, L_1023, L_1024, nLe, nLt, nEq, nI_1, nI_add, pk_mul, nSn, nDn, nCl, zck_nI, zdv_nI, nNeg, nLe0, n0Lt, nEq0, nM1, m1N, m1Lt, nLm1, zcb_0, zcb_1, i10, i01, nEq1, n1Eq, nLt1, gI_eq, gI_nb, gI_na, x_badF, x_badT1, x_badT2, bt_0, bt_1, bit1_u, Bool.true_eq_false, Bool.false_eq_true, eq_self, Int32.or_zero, if_pos, if_neg, v_fam h hs hn, v_fam h ho hn, h1, h2, false_and, and_false, if_false, true_and]
      · simp (disch := omega) only [Option.bind_some, Option.map_some, zlet_eq, ↓reduceIte, L_2, L_3, L_4, L_5, L_6, L_7, L_8, L_9, L_10, L_12, L_13, L_20, L_24, L_25, L_26, L_27, L_30, L_32, L_33, L_34, L_40, L_48, L_57, L_58, L_60, L_64, L_90, L_93, L_97, L_99, L_100, L_122, L_144, L_255, L_364, L_480, L_500, L_800, L_1000, L_100000, L_4096, L_1023, L_1024, nLe, nLt, nEq, nI_1, nI_add, pk_mul, nSn, nDn, nCl, zck_nI, zdv_nI, nNeg, nLe0, n0Lt, nEq0, nM1, m1N, m1Lt, nLm1, zcb_0, zcb_1, i10, i01, nEq1, n1Eq, nLt1, gI_eq, gI_nb, gI_na, x_badF, x_badT1, x_badT2, bt_0, bt_1, bit1_u, Bool.true_eq_false, Bool.false_eq_true, eq_self, Int32.or_zero, if_pos, if_neg, v_fam h hs hn, h1, false_and, if_false]
    · rintro m b
      show fn_X0_unlikestPair_22 a f D (fn_X0_unlikestPair_7 a f D n) (m + 1) b.1 b.2 (nI s) (nI ns) = _
      rw [fn_X0_unlikestPair_22, h]
      simp (disch := omega) only [Option.bind_some, Option.map_some, zlet_eq, ↓reduceIte, L_2, L_3, L_4, L_5, L_6, L_7, L_8, L_9, L_10, L_12, L_13, L_20, L_24, L_25, L_26, L_27, L_30, L_32, L_33, L_34, L_40, L_48, L_57, L_58, L_60, L_64, L_90, L_93, L_97, L_99, L_100, L_122, L_144, L_255, L_364, L_480, L_500, L_800, L_1000, L_100000, L_4096, L_1023, L_1024, nLe, nLt, nEq, nI_1, nI_add, pk_mul, nSn, nDn, nCl, zck_nI, zdv_nI, nNeg, nLe0, n0Lt, nEq0, nM1, m1N, m1Lt, nLm1, zcb_0, zcb_1, i10, i01, nEq1, n1Eq, nLt1, gI_eq, gI_nb, gI_na, x_badF, x_badT1, x_badT2, bt_0, bt_1, bit1_u, Bool.true_eq_false, Bool.false_eq_true, eq_self, Int32.or_zero, if_pos, if_neg]
  · rintro n b
    show fn_X0_unlikestPair_7 a f D (n + 1) b.1 b.2 (nI ns) = _
    rw [fn_X0_unlikestPair_7, h]
    simp (disch := omega) only [Option.bind_some, Option.map_some, zlet_eq, ↓reduceIte, L_2, L_3, L_4, L_5, L_6, L_7, L_8, L_9, L_10, L_12, L_13, L_20, L_24, L_25, L_26, L_27, L_30, L_32, L_33, L_34, L_40, L_48, L_57, L_58, L_60, L_64, L_90, L_93, L_97, L_99, L_100, L_122, L_144, L_255, L_364, L_480, L_500, L_800, L_1000, L_100000, L_4096, L_1023, L_1024, nLe, nLt, nEq, nI_1, nI_add, pk_mul, nSn, nDn, nCl, zck_nI, zdv_nI, nNeg, nLe0, n0Lt, nEq0, nM1, m1N, m1Lt, nLm1, zcb_0, zcb_1, i10, i01, nEq1, n1Eq, nLt1, gI_eq, gI_nb, gI_na, x_badF, x_badT1, x_badT2, bt_0, bt_1, bit1_u, Bool.true_eq_false, Bool.false_eq_true, eq_self, Int32.or_zero, if_pos, if_neg]
theorem r_akin {ns : Nat} (h : gI D 102 16 = nI ns) (hn : ns ≤ 12) (f w : Int32) : fn_X12_akin_46 f w zFU (-1) (-1) 0 D = fn_X12_akin_159 f w (sAk ns f (gI D 105) (gI D 107)).1 (sAk ns f (gI D 105) (gI D 107)).2 D := by
  refine z_for ns (fun n s (b : Int32 × Int32) => fn_X12_akin_46 f w n b.1 b.2 (nI s) D) (fun s b => zfo (fAk f (gI D 105) (gI D 107) s) (ns - (s + 1)) (s + 1) b) (fun b => fn_X12_akin_159 f w b.1 b.2 D) ?_ ?_ 0 zFU (-1, -1) (Nat.zero_le _) (zfu_gt (by omega))
  · rintro n s b hs
    show fn_X12_akin_46 f w (n + 1) b.1 b.2 (nI s) D = _
    rw [fn_X12_akin_46, h]
    simp (disch := omega) only [Option.bind_some, Option.map_some, zlet_eq, ↓reduceIte, L_2, L_3, L_4, L_5, L_6, L_7, L_8, L_9, L_10, L_12, L_13, L_20, L_24, L_25, L_26, L_27, L_30, L_32, L_33, L_34, L_40, L_48, L_57, L_58, L_60, L_64, L_90, L_93, L_97, L_99, L_100, L_122, L_144, L_255, L_364, L_480, L_500, L_800, L_1000, L_100000, L_4096, L_1023, L_1024, nLe, nLt, nEq, nI_1, nI_add, pk_mul, nSn, nDn, nCl, zck_nI, zdv_nI, nNeg, nLe0, n0Lt, nEq0, nM1, m1N, m1Lt, nLm1, zcb_0, zcb_1, i10, i01, nEq1, n1Eq, nLt1, gI_eq, gI_nb, gI_na, x_badF, x_badT1, x_badT2, bt_0, bt_1, bit1_u, Bool.true_eq_false, Bool.false_eq_true, eq_self, Int32.or_zero, if_pos, if_neg]
    refine z_for ns (fun m o (b : Int32 × Int32) => fn_X12_akin_61 f w (fn_X12_akin_46 f w n) m b.1 b.2 (nI s) (nI o) D) (fAk f (gI D 105) (gI D 107) s) (fun b => fn_X12_akin_46 f w n b.1 b.2 (nI (s + 1)) D) ?_ ?_ (s + 1) zFU b (by omega) (zfu_gt (by omega))
    · rintro m o ⟨x, y⟩ ho
      show fn_X12_akin_61 f w (fn_X12_akin_46 f w n) (m + 1) x y (nI s) (nI o) D = fn_X12_akin_61 f w (fn_X12_akin_46 f w n) m (fAk _ _ _ s o (x, y)).1 (fAk _ _ _ s o (x, y)).2 (nI s) (nI (o + 1)) D
      rw [fn_X12_akin_61, h]
      unfold fAk
      by_cases h1 : gI D 107 s = f
      · by_cases h2 : gI D 107 o = f
        · by_cases h3 : y < nI (pc (gI D 105 s ^^^ gI D 105 o))
          · simp (disch := omega) only [Option.bind_some, Option.map_some, zlet_eq, ↓reduceIte, L_2, L_3, L_4, L_5, L_6, L_7, L_8, L_9, L_10, L_12, L_13, L_20, L_24, L_25, L_26, L_27, L_30, L_32, L_33, L_34, L_40, L_48, L_57, L_58, L_60, L_64, L_90, L_93, L_97, L_99, L_100, L_122, L_144, L_255, L_364, L_480, L_500, L_800, L_1000, L_100000, L_4096, L_1023, L_1024, nLe, nLt, nEq, nI_1, nI_add, pk_mul, nSn, nDn, nCl, zck_nI, zdv_nI, nNeg, nLe0, n0Lt, nEq0, nM1, m1N, m1Lt, nLm1, zcb_0, zcb_1, i10, i01, nEq1, n1Eq, nLt1, gI_eq, gI_nb, gI_na, x_badF, x_badT1, x_badT2, bt_0, bt_1, bit1_u, Bool.true_eq_false, Bool.false_eq_true, eq_self, Int32.or_zero, if_pos, if_neg, h1, h2, z_ones, h3, true_and, and_true, if_true]
          · simp (disch := omega) only [Option.bind_some, Option.map_some, zlet_eq, ↓reduceIte, L_2, L_3, L_4, L_5, L_6, L_7, L_8, L_9, L_10, L_12, L_13, L_20, L_24, L_25, L_26, L_27, L_30, L_32, L_33, L_34, L_40, L_48, L_57, L_58, L_60, L_64, L_90, L_93, L_97, L_99, L_100, L_122, L_144, L_255, L_364, L_480, L_500, L_800, L_1000, L_100000, L_4096, L_1023, L_1024, nLe, nLt, nEq, nI_1, nI_add, pk_mul, nSn, nDn, nCl, zck_nI, zdv_nI, nNeg, nLe0, n0Lt, nEq0, nM1, m1N, m1Lt, nLm1, zcb_0, zcb_1, i10, i01, nEq1, n1Eq, nLt1, gI_eq, gI_nb, gI_na, x_badF, x_badT1, x_badT2, bt_0, bt_1, bit1_u, Bool.true_eq_false, Bool.false_eq_true, eq_self, Int32.or_zero, if_pos, if_neg, h1, h2, z_ones, h3, true_and, and_false, if_false]
        · simp (disch := omega) only [Option.bind_some, Option.map_some, zlet_eq, ↓reduceIte, L_2, L_3, L_4, L_5, L_6, L_7, L_8, L_9, L_10, L_12, L_13, L_20, L_24, L_25, L_26, L_27, L_30, L_32, L_33, L_34, L_40, L_48, L_57, L_58, L_60, L_64, L_90, L_93, L_97, L_99, L_100, L_122, L_144, L_255, L_364, L_480, L_500, L_800, L_1000, L_100000, L_4096, L_1023, L_1024, nLe, nLt, nEq, nI_1, nI_add, pk_mul, nSn, nDn, nCl, zck_nI, zdv_nI, nNeg, nLe0, n0Lt, nEq0, nM1, m1N, m1Lt, nLm1, zcb_0, zcb_1, i10, i01, nEq1, n1Eq, nLt1, gI_eq, gI_nb, gI_na, x_badF, x_badT1, x_badT2, bt_0, bt_1, bit1_u, Bool.true_eq_false, Bool.false_eq_true, eq_self, Int32.or_zero, if_pos, if_neg, h1, h2, false_and, and_false, if_false, true_and]
      · simp (disch := omega) only [Option.bind_some, Option.map_some, zlet_eq, ↓reduceIte, L_2, L_3, L_4, L_5, L_6, L_7, L_8, L_9, L_10, L_12, L_13, L_20, L_24, L_25, L_26, L_27, L_30, L_32, L_33, L_34, L_40, L_48, L_57, L_58, L_60, L_64, L_90, L_93, L_97, L_99, L_100, L_122, L_144, L_255, L_364, L_480, L_500, L_800, L_1000, L_100000, L_4096, L_1023, L_1024, nLe, nLt, nEq, nI_1, nI_add, pk_mul, nSn, nDn, nCl, zck_nI, zdv_nI, nNeg, nLe0, n0Lt, nEq0, nM1, m1N, m1Lt, nLm1, zcb_0, zcb_1, i10, i01, nEq1, n1Eq, nLt1, gI_eq, gI_nb, gI_na, x_badF, x_badT1, x_badT2, bt_0, bt_1, bit1_u, Bool.true_eq_false, Bool.false_eq_true, eq_self, Int32.or_zero, if_pos, if_neg, h1, false_and, if_false]
    · rintro m b
      show fn_X12_akin_61 f w (fn_X12_akin_46 f w n) (m + 1) b.1 b.2 (nI s) (nI ns) D = _
      rw [fn_X12_akin_61, h]
      simp (disch := omega) only [Option.bind_some, Option.map_some, zlet_eq, ↓reduceIte, L_2, L_3, L_4, L_5, L_6, L_7, L_8, L_9, L_10, L_12, L_13, L_20, L_24, L_25, L_26, L_27, L_30, L_32, L_33, L_34, L_40, L_48, L_57, L_58, L_60, L_64, L_90, L_93, L_97, L_99, L_100, L_122, L_144, L_255, L_364, L_480, L_500, L_800, L_1000, L_100000, L_4096, L_1023, L_1024, nLe, nLt, nEq, nI_1, nI_add, pk_mul, nSn, nDn, nCl, zck_nI, zdv_nI, nNeg, nLe0, n0Lt, nEq0, nM1, m1N, m1Lt, nLm1, zcb_0, zcb_1, i10, i01, nEq1, n1Eq, nLt1, gI_eq, gI_nb, gI_na, x_badF, x_badT1, x_badT2, bt_0, bt_1, bit1_u, Bool.true_eq_false, Bool.false_eq_true, eq_self, Int32.or_zero, if_pos, if_neg]
  · rintro n b
    show fn_X12_akin_46 f w (n + 1) b.1 b.2 (nI ns) D = _
    rw [fn_X12_akin_46, h]
    simp (disch := omega) only [Option.bind_some, Option.map_some, zlet_eq, ↓reduceIte, L_2, L_3, L_4, L_5, L_6, L_7, L_8, L_9, L_10, L_12, L_13, L_20, L_24, L_25, L_26, L_27, L_30, L_32, L_33, L_34, L_40, L_48, L_57, L_58, L_60, L_64, L_90, L_93, L_97, L_99, L_100, L_122, L_144, L_255, L_364, L_480, L_500, L_800, L_1000, L_100000, L_4096, L_1023, L_1024, nLe, nLt, nEq, nI_1, nI_add, pk_mul, nSn, nDn, nCl, zck_nI, zdv_nI, nNeg, nLe0, n0Lt, nEq0, nM1, m1N, m1Lt, nLm1, zcb_0, zcb_1, i10, i01, nEq1, n1Eq, nLt1, gI_eq, gI_nb, gI_na, x_badF, x_badT1, x_badT2, bt_0, bt_1, bit1_u, Bool.true_eq_false, Bool.false_eq_true, eq_self, Int32.or_zero, if_pos, if_neg]
theorem t_akin (h : iv P D) (f w : Int32) : twin (wk1 1) (wP D (fn_X11_akin f w D)) (fn_X12_akin f w) := by
  have h' := h
  obtain ⟨⟨⟨hb, ⟨a0, a1, a2, a3⟩, ⟨b0, b1, b2, b3⟩, hs, hw⟩, ⟨hc, c1, c2, hcv⟩, ⟨hd, ⟨z0, z1, z2⟩, ⟨y0, y1, y2⟩, hp, ht⟩, ⟨hi, i0, i1, him⟩, ⟨hta, ta0, ta1, hpl, htb⟩⟩, hK, hO⟩ := h
  replace y0 : gI _ 102 34 = nI (P 5) := y0
  replace y1 : gI _ 102 35 = nI (P 6) := y1
  replace y2 : gI _ 102 36 = nI (P 7) := y2
  unfold fn_X11_akin
  rcases x_inK (v := f) (n := 3) (by omega) with ⟨e, g⟩ | ⟨e, j, hj, rfl⟩
  · refine twin_t h' (e := 1) (t := 1) rfl (by decide) (by rw [show (3 : Int32) = nI 3 from rfl, y_outK g (by omega)]) fun E hE he => ?_
    unfold fn_X12_akin fn_X12_akin_24 fn_X12_akin_29
    simp (disch := omega) only [Option.bind_some, Option.map_some, zlet_eq, ↓reduceIte, L_2, L_3, L_4, L_5, L_6, L_7, L_8, L_9, L_10, L_12, L_13, L_20, L_24, L_25, L_26, L_27, L_30, L_32, L_33, L_34, L_40, L_48, L_57, L_58, L_60, L_64, L_90, L_93, L_97, L_99, L_100, L_122, L_144, L_255, L_364, L_480, L_500, L_800, L_1000, L_100000, L_4096, L_1023, L_1024, nLe, nLt, nEq, nI_1, nI_add, pk_mul, nSn, nDn, nCl, zck_nI, zdv_nI, nNeg, nLe0, n0Lt, nEq0, nM1, m1N, m1Lt, nLm1, zcb_0, zcb_1, i10, i01, nEq1, n1Eq, nLt1, gI_eq, gI_nb, gI_na, x_badF, x_badT1, x_badT2, bt_0, bt_1, bit1_u, Bool.true_eq_false, Bool.false_eq_true, eq_self, Int32.or_zero, if_pos, if_neg, e]
  · rcases x_inK (v := w) (n := 1) (by omega) with ⟨e2, g⟩ | ⟨e2, i, hi2, rfl⟩
    · replace e2 : fn_X12_in w 0 1 = some 0 := e2
      refine twin_t h' (e := 1) (t := 1) rfl (by decide) (by rw [show (1 : Int32) = nI 1 from rfl, c_needWhat (by omega) g]; simp (disch := omega) only [Option.bind_some, Option.map_some, zlet_eq, ↓reduceIte, L_2, L_3, L_4, L_5, L_6, L_7, L_8, L_9, L_10, L_12, L_13, L_20, L_24, L_25, L_26, L_27, L_30, L_32, L_33, L_34, L_40, L_48, L_57, L_58, L_60, L_64, L_90, L_93, L_97, L_99, L_100, L_122, L_144, L_255, L_364, L_480, L_500, L_800, L_1000, L_100000, L_4096, L_1023, L_1024, nLe, nLt, nEq, nI_1, nI_add, pk_mul, nSn, nDn, nCl, zck_nI, zdv_nI, nNeg, nLe0, n0Lt, nEq0, nM1, m1N, m1Lt, nLm1, zcb_0, zcb_1, i10, i01, nEq1, n1Eq, nLt1, gI_eq, gI_nb, gI_na, x_badF, x_badT1, x_badT2, bt_0, bt_1, bit1_u, Bool.true_eq_false, Bool.false_eq_true, eq_self, Int32.or_zero, if_pos, if_neg]) fun E hE he => ?_
      unfold fn_X12_akin fn_X12_akin_24 fn_X12_akin_29
      simp (disch := omega) only [Option.bind_some, Option.map_some, zlet_eq, ↓reduceIte, L_2, L_3, L_4, L_5, L_6, L_7, L_8, L_9, L_10, L_12, L_13, L_20, L_24, L_25, L_26, L_27, L_30, L_32, L_33, L_34, L_40, L_48, L_57, L_58, L_60, L_64, L_90, L_93, L_97, L_99, L_100, L_122, L_144, L_255, L_364, L_480, L_500, L_800, L_1000, L_100000, L_4096, L_1023, L_1024, nLe, nLt, nEq, nI_1, nI_add, pk_mul, nSn, nDn, nCl, zck_nI, zdv_nI, nNeg, nLe0, n0Lt, nEq0, nM1, m1N, m1Lt, nLm1, zcb_0, zcb_1, i10, i01, nEq1, n1Eq, nLt1, gI_eq, gI_nb, gI_na, x_badF, x_badT1, x_badT2, bt_0, bt_1, bit1_u, Bool.true_eq_false, Bool.false_eq_true, eq_self, Int32.or_zero, if_pos, if_neg, e, e2]
    · replace e2 : fn_X12_in (nI i) 0 1 = some 1 := e2
      have hW : fn_X11_needWhat (nI i) 1 = some 0 := c_needWhatJ (n := 1) (by omega) hi2
      have hcg : sAk (P 2) (nI j) (gI D 4) (gI D 5) = sAk (P 2) (nI j) (gI D 105) (gI D 107) := sAk_cong fun s hs' => ⟨(hs s hs').1, (hs s hs').2.1⟩
      refine twin_v h' (v := if i = 0 then (sAk (P 2) (nI j) (gI D 105) (gI D 107)).1 else (sAk (P 2) (nI j) (gI D 105) (gI D 107)).2) ?_ fun E hE he => ?_
      · have hpair := c_pair (D := D) (a := 3) a2 hb.2.2.2.2.1 (nI j)
        rw [hcg] at hpair
        rcases sAk_form (P 2) (nI j) (gI D 105) (gI D 107) with q | ⟨s, o, hso, ho, q⟩
        · rw [q] at hpair ⊢
          simp (disch := omega) only [Option.bind_some, Option.map_some, zlet_eq, ↓reduceIte, L_2, L_3, L_4, L_5, L_6, L_7, L_8, L_9, L_10, L_12, L_13, L_20, L_24, L_25, L_26, L_27, L_30, L_32, L_33, L_34, L_40, L_48, L_57, L_58, L_60, L_64, L_90, L_93, L_97, L_99, L_100, L_122, L_144, L_255, L_364, L_480, L_500, L_800, L_1000, L_100000, L_4096, L_1023, L_1024, nLe, nLt, nEq, nI_1, nI_add, pk_mul, nSn, nDn, nCl, zck_nI, zdv_nI, nNeg, nLe0, n0Lt, nEq0, nM1, m1N, m1Lt, nLm1, zcb_0, zcb_1, i10, i01, nEq1, n1Eq, nLt1, gI_eq, gI_nb, gI_na, x_badF, x_badT1, x_badT2, bt_0, bt_1, bit1_u, Bool.true_eq_false, Bool.false_eq_true, eq_self, Int32.or_zero, if_pos, if_neg, hW, hpair, ite_self]
        · rw [q] at hpair ⊢
          have hd1 : (100 * s + o) / 100 = s := by omega
          have hd2 : 100 * s + o - s * 100 = o := by omega
          by_cases g0 : i = 0
          · subst g0
            simp (disch := omega) only [Option.bind_some, Option.map_some, zlet_eq, ↓reduceIte, L_2, L_3, L_4, L_5, L_6, L_7, L_8, L_9, L_10, L_12, L_13, L_20, L_24, L_25, L_26, L_27, L_30, L_32, L_33, L_34, L_40, L_48, L_57, L_58, L_60, L_64, L_90, L_93, L_97, L_99, L_100, L_122, L_144, L_255, L_364, L_480, L_500, L_800, L_1000, L_100000, L_4096, L_1023, L_1024, nLe, nLt, nEq, nI_1, nI_add, pk_mul, nSn, nDn, nCl, zck_nI, zdv_nI, nNeg, nLe0, n0Lt, nEq0, nM1, m1N, m1Lt, nLm1, zcb_0, zcb_1, i10, i01, nEq1, n1Eq, nLt1, gI_eq, gI_nb, gI_na, x_badF, x_badT1, x_badT2, bt_0, bt_1, bit1_u, Bool.true_eq_false, Bool.false_eq_true, eq_self, Int32.or_zero, if_pos, if_neg, hW, hpair]
          · simp (disch := omega) only [Option.bind_some, Option.map_some, zlet_eq, ↓reduceIte, L_2, L_3, L_4, L_5, L_6, L_7, L_8, L_9, L_10, L_12, L_13, L_20, L_24, L_25, L_26, L_27, L_30, L_32, L_33, L_34, L_40, L_48, L_57, L_58, L_60, L_64, L_90, L_93, L_97, L_99, L_100, L_122, L_144, L_255, L_364, L_480, L_500, L_800, L_1000, L_100000, L_4096, L_1023, L_1024, nLe, nLt, nEq, nI_1, nI_add, pk_mul, nSn, nDn, nCl, zck_nI, zdv_nI, nNeg, nLe0, n0Lt, nEq0, nM1, m1N, m1Lt, nLm1, zcb_0, zcb_1, i10, i01, nEq1, n1Eq, nLt1, gI_eq, gI_nb, gI_na, x_badF, x_badT1, x_badT2, bt_0, bt_1, bit1_u, Bool.true_eq_false, Bool.false_eq_true, eq_self, Int32.or_zero, if_pos, if_neg, hW, hpair, g0, hd1, hd2, v_unlike a2 (show s < P 2 by omega) ho hb.2.2.2.2.1, (hs s (by omega)).1, (hs o ho).1]
      · have m := r_akin (D := sI E 102 0 0) (ns := P 2) ((gI_nb (by omega)).trans ((gE he 102 16).symm.trans b2)) (by omega) (nI j) (nI i)
        rw [gIf (by omega), gIf (by omega), show gI E 105 = gI D 105 from funext fun b => (gE he 105 b).symm, show gI E 107 = gI D 107 from funext fun b => (gE he 107 b).symm] at m
        unfold fn_X12_akin fn_X12_akin_29
        by_cases g0 : i = 0
        · subst g0
          unfold fn_X12_akin_159 at m
          simp (disch := omega) only [Option.bind_some, Option.map_some, zlet_eq, ↓reduceIte, L_2, L_3, L_4, L_5, L_6, L_7, L_8, L_9, L_10, L_12, L_13, L_20, L_24, L_25, L_26, L_27, L_30, L_32, L_33, L_34, L_40, L_48, L_57, L_58, L_60, L_64, L_90, L_93, L_97, L_99, L_100, L_122, L_144, L_255, L_364, L_480, L_500, L_800, L_1000, L_100000, L_4096, L_1023, L_1024, nLe, nLt, nEq, nI_1, nI_add, pk_mul, nSn, nDn, nCl, zck_nI, zdv_nI, nNeg, nLe0, n0Lt, nEq0, nM1, m1N, m1Lt, nLm1, zcb_0, zcb_1, i10, i01, nEq1, n1Eq, nLt1, gI_eq, gI_nb, gI_na, x_badF, x_badT1, x_badT2, bt_0, bt_1, bit1_u, Bool.true_eq_false, Bool.false_eq_true, eq_self, Int32.or_zero, if_pos, if_neg, e, e2] at m ⊢
          rw [m]
        · unfold fn_X12_akin_159 at m
          simp (disch := omega) only [Option.bind_some, Option.map_some, zlet_eq, ↓reduceIte, L_2, L_3, L_4, L_5, L_6, L_7, L_8, L_9, L_10, L_12, L_13, L_20, L_24, L_25, L_26, L_27, L_30, L_32, L_33, L_34, L_40, L_48, L_57, L_58, L_60, L_64, L_90, L_93, L_97, L_99, L_100, L_122, L_144, L_255, L_364, L_480, L_500, L_800, L_1000, L_100000, L_4096, L_1023, L_1024, nLe, nLt, nEq, nI_1, nI_add, pk_mul, nSn, nDn, nCl, zck_nI, zdv_nI, nNeg, nLe0, n0Lt, nEq0, nM1, m1N, m1Lt, nLm1, zcb_0, zcb_1, i10, i01, nEq1, n1Eq, nLt1, gI_eq, gI_nb, gI_na, x_badF, x_badT1, x_badT2, bt_0, bt_1, bit1_u, Bool.true_eq_false, Bool.false_eq_true, eq_self, Int32.or_zero, if_pos, if_neg, e, e2, g0] at m ⊢
          rw [m]
/-- strangers -/
def fSt (pt fm : Nat → Int32) (s o : Nat) (b : Nat × Nat) : Nat × Nat := if o = s then b else if fm o = fm s then (min b.1 (pc (pt s ^^^ pt o)), b.2) else (b.1, min b.2 (pc (pt s ^^^ pt o)))
def sStr (ns : Nat) (pt fm : Nat → Int32) (s : Nat) : Bool := decide (fm s ≠ -1) && decide ((zfo (fSt pt fm s) ns 0 (31, 31)).1 ≤ 30) && decide ((zfo (fSt pt fm s) ns 0 (31, 31)).2 < (zfo (fSt pt fm s) ns 0 (31, 31)).1)
theorem sStr_cong {ns : Nat} {pt fm qt gm : Nat → Int32} {s : Nat} (hs : s < ns) (h : ∀ s, s < ns → pt s = qt s ∧ fm s = gm s) : sStr ns pt fm s = sStr ns qt gm s := by
  have e : zfo (fSt pt fm s) ns 0 (31, 31) = zfo (fSt qt gm s) ns 0 (31, 31) := by
    refine zfo_cong fun o b h3 h4 => ?_
    unfold fSt
    rw [(h s (by omega)).1, (h s (by omega)).2, (h o (by omega)).1, (h o (by omega)).2]
  unfold sStr
  rw [e, (h s hs).2]
theorem fSt_le (pt fm : Nat → Int32) (s o : Nat) {b : Nat × Nat} (h : b.1 ≤ 31 ∧ b.2 ≤ 31) : (fSt pt fm s o b).1 ≤ 31 ∧ (fSt pt fm s o b).2 ≤ 31 := by
  unfold fSt
  split
  · exact h
  · split
    · exact ⟨by simp only []; omega, h.2⟩
    · exact ⟨h.1, by simp only []; omega⟩
theorem c_isStranger {a ns : Nat} (h : gI D a 2 = nI ns) (hn : ns ≤ 12) {s : Nat} (hs : s < ns) : fn_X0_isStranger a (nI s) D = some (if sStr ns (gI D (a + 1)) (gI D (a + 2)) s then 1 else 0) := by
  have e := z_fori ns (fun n o (b : Nat × Nat) => fn_X0_isStranger_9 a (nI s) D n (nI b.1) (nI b.2) (nI o)) (fSt (gI D (a + 1)) (gI D (a + 2)) s) (fun b => fn_X0_isStranger_77 a (nI s) D (nI b.1) (nI b.2)) (fun _ b => b.1 ≤ 31 ∧ b.2 ≤ 31) ?_ ?_ 0 zFU (31, 31) (Nat.zero_le _) (zfu_gt (by omega)) ⟨by decide, by decide⟩
  · unfold fn_X0_isStranger
    refine Eq.trans e ?_
    have hI : (zfo (fSt (gI D (a + 1)) (gI D (a + 2)) s) ns 0 (31, 31)).1 ≤ 31 ∧ (zfo (fSt (gI D (a + 1)) (gI D (a + 2)) s) ns 0 (31, 31)).2 ≤ 31 := zfo_inv (σ := Nat × Nat) (N := ns) (m := ns) (i := 0) (fun _ b => b.1 ≤ 31 ∧ b.2 ≤ 31) (fun k b _ hb => fSt_le _ _ _ _ hb) (by omega) ⟨by decide, by decide⟩
    unfold sStr
    rw [Nat.sub_zero]
    generalize zfo (fSt (gI D (a + 1)) (gI D (a + 2)) s) ns 0 (31, 31) = Z at *
    unfold fn_X0_isStranger_77
    by_cases h1 : gI D (a + 2) s = -1
    · simp (disch := omega) only [Option.bind_some, Option.map_some, zlet_eq, ↓reduceIte, L_2, L_3, L_4, L_5, L_6, L_7, L_8, L_9, L_10, L_12, L_13, L_20, L_24, L_25, L_26, L_27, L_30, L_32, L_33, L_34, L_40, L_48, L_57, L_58, L_60, L_64, L_90, L_93, L_97, L_99, L_100, L_122, L_144, L_255, L_364, L_480, L_500, L_800, L_1000, L_100000, L_4096, L_1023, L_1024, nLe, nLt, nEq, nI_1, nI_add, pk_mul, nSn, nDn, nCl, zck_nI, zdv_nI, nNeg, nLe0, n0Lt, nEq0, nM1, m1N, m1Lt, nLm1, zcb_0, zcb_1, i10, i01, nEq1, n1Eq, nLt1, gI_eq, gI_nb, gI_na, x_badF, x_badT1, x_badT2, bt_0, bt_1, bit1_u, Bool.true_eq_false, Bool.false_eq_true, eq_self, Int32.or_zero, if_pos, if_neg, v_fam h hs hn, h1, ne_eq, not_true, decide_false, Bool.false_and]
    · by_cases h2 : Z.1 ≤ 30
      · by_cases h3 : Z.2 < Z.1
        · simp (disch := omega) only [Option.bind_some, Option.map_some, zlet_eq, ↓reduceIte, L_2, L_3, L_4, L_5, L_6, L_7, L_8, L_9, L_10, L_12, L_13, L_20, L_24, L_25, L_26, L_27, L_30, L_32, L_33, L_34, L_40, L_48, L_57, L_58, L_60, L_64, L_90, L_93, L_97, L_99, L_100, L_122, L_144, L_255, L_364, L_480, L_500, L_800, L_1000, L_100000, L_4096, L_1023, L_1024, nLe, nLt, nEq, nI_1, nI_add, pk_mul, nSn, nDn, nCl, zck_nI, zdv_nI, nNeg, nLe0, n0Lt, nEq0, nM1, m1N, m1Lt, nLm1, zcb_0, zcb_1, i10, i01, nEq1, n1Eq, nLt1, gI_eq, gI_nb, gI_na, x_badF, x_badT1, x_badT2, bt_0, bt_1, bit1_u, Bool.true_eq_false, Bool.false_eq_true, eq_self, Int32.or_zero, if_pos, if_neg, v_fam h hs hn, h1, ne_eq, not_false_eq_true, decide_true, decide_eq_true h2, decide_eq_true h3, Bool.true_and]
        · simp (disch := omega) only [Option.bind_some, Option.map_some, zlet_eq, ↓reduceIte, L_2, L_3, L_4, L_5, L_6, L_7, L_8, L_9, L_10, L_12, L_13, L_20, L_24, L_25, L_26, L_27, L_30, L_32, L_33, L_34, L_40, L_48, L_57, L_58, L_60, L_64, L_90, L_93, L_97, L_99, L_100, L_122, L_144, L_255, L_364, L_480, L_500, L_800, L_1000, L_100000, L_4096, L_1023, L_1024, nLe, nLt, nEq, nI_1, nI_add, pk_mul, nSn, nDn, nCl, zck_nI, zdv_nI, nNeg, nLe0, n0Lt, nEq0, nM1, m1N, m1Lt, nLm1, zcb_0, zcb_1, i10, i01, nEq1, n1Eq, nLt1, gI_eq, gI_nb, gI_na, x_badF, x_badT1, x_badT2, bt_0, bt_1, bit1_u, Bool.true_eq_false, Bool.false_eq_true, eq_self, Int32.or_zero, if_pos, if_neg, v_fam h hs hn, h1, ne_eq, not_false_eq_true, decide_true, decide_eq_false h3, Bool.and_false]
      · simp (disch := omega) only [Option.bind_some, Option.map_some, zlet_eq, ↓reduceIte, L_2, L_3, L_4, L_5, L_6, L_7, L_8, L_9, L_10, L_12, L_13, L_20, L_24, L_25, L_26, L_27, L_30, L_32, L_33, L_34, L_40, L_48, L_57, L_58, L_60, L_64, L_90, L_93, L_97, L_99, L_100, L_122, L_144, L_255, L_364, L_480, L_500, L_800, L_1000, L_100000, L_4096, L_1023, L_1024, nLe, nLt, nEq, nI_1, nI_add, pk_mul, nSn, nDn, nCl, zck_nI, zdv_nI, nNeg, nLe0, n0Lt, nEq0, nM1, m1N, m1Lt, nLm1, zcb_0, zcb_1, i10, i01, nEq1, n1Eq, nLt1, gI_eq, gI_nb, gI_na, x_badF, x_badT1, x_badT2, bt_0, bt_1, bit1_u, Bool.true_eq_false, Bool.false_eq_true, eq_self, Int32.or_zero, if_pos, if_neg, v_fam h hs hn, h1, ne_eq, not_false_eq_true, decide_true, decide_eq_false h2, Bool.and_false, Bool.false_and]
  · rintro n o ⟨x, y⟩ ho ⟨hx, hy⟩
    refine ⟨?_, fSt_le _ _ _ _ ⟨hx, hy⟩⟩
    show fn_X0_isStranger_9 a (nI s) D (n + 1) (nI x) (nI y) (nI o) = fn_X0_isStranger_9 a (nI s) D n (nI (fSt _ _ s o (x, y)).1) (nI (fSt _ _ s o (x, y)).2) (nI (o + 1))
    have hx' : x ≤ 31 := hx
    have hy' : y ≤ 31 := hy
    have hb := pc_le (gI D (a + 1) s ^^^ gI D (a + 1) o)
    rw [fn_X0_isStranger_9, h]
    unfold fSt fn_X0_isStranger_53
    by_cases h1 : o = s
    · subst h1
      simp (disch := omega) only [Option.bind_some, Option.map_some, zlet_eq, ↓reduceIte, L_2, L_3, L_4, L_5, L_6, L_7, L_8, L_9, L_10, L_12, L_13, L_20, L_24, L_25, L_26, L_27, L_30, L_32, L_33, L_34, L_40, L_48, L_57, L_58, L_60, L_64, L_90, L_93, L_97, L_99, L_100, L_122, L_144, L_255, L_364, L_480, L_500, L_800, L_1000, L_100000, L_4096, L_1023, L_1024, nLe, nLt, nEq, nI_1, nI_add, pk_mul, nSn, nDn, nCl, zck_nI, zdv_nI, nNeg, nLe0, n0Lt, nEq0, nM1, m1N, m1Lt, nLm1, zcb_0, zcb_1, i10, i01, nEq1, n1Eq, nLt1, gI_eq, gI_nb, gI_na, x_badF, x_badT1, x_badT2, bt_0, bt_1, bit1_u, Bool.true_eq_false, Bool.false_eq_true, eq_self, Int32.or_zero, if_pos, if_neg]
    · by_cases h2 : gI D (a + 2) o = gI D (a + 2) s
      · simp (disch := omega) only [Option.bind_some, Option.map_some, zlet_eq, ↓reduceIte, L_2, L_3, L_4, L_5, L_6, L_7, L_8, L_9, L_10, L_12, L_13, L_20, L_24, L_25, L_26, L_27, L_30, L_32, L_33, L_34, L_40, L_48, L_57, L_58, L_60, L_64, L_90, L_93, L_97, L_99, L_100, L_122, L_144, L_255, L_364, L_480, L_500, L_800, L_1000, L_100000, L_4096, L_1023, L_1024, nLe, nLt, nEq, nI_1, nI_add, pk_mul, nSn, nDn, nCl, zck_nI, zdv_nI, nNeg, nLe0, n0Lt, nEq0, nM1, m1N, m1Lt, nLm1, zcb_0, zcb_1, i10, i01, nEq1, n1Eq, nLt1, gI_eq, gI_nb, gI_na, x_badF, x_badT1, x_badT2, bt_0, bt_1, bit1_u, Bool.true_eq_false, Bool.false_eq_true, eq_self, Int32.or_zero, if_pos, if_neg, v_fam h hs hn, v_fam h ho hn, h2, v_unlike h hs ho hn, zmn_n]
      · simp (disch := omega) only [Option.bind_some, Option.map_some, zlet_eq, ↓reduceIte, L_2, L_3, L_4, L_5, L_6, L_7, L_8, L_9, L_10, L_12, L_13, L_20, L_24, L_25, L_26, L_27, L_30, L_32, L_33, L_34, L_40, L_48, L_57, L_58, L_60, L_64, L_90, L_93, L_97, L_99, L_100, L_122, L_144, L_255, L_364, L_480, L_500, L_800, L_1000, L_100000, L_4096, L_1023, L_1024, nLe, nLt, nEq, nI_1, nI_add, pk_mul, nSn, nDn, nCl, zck_nI, zdv_nI, nNeg, nLe0, n0Lt, nEq0, nM1, m1N, m1Lt, nLm1, zcb_0, zcb_1, i10, i01, nEq1, n1Eq, nLt1, gI_eq, gI_nb, gI_na, x_badF, x_badT1, x_badT2, bt_0, bt_1, bit1_u, Bool.true_eq_false, Bool.false_eq_true, eq_self, Int32.or_zero, if_pos, if_neg, v_fam h hs hn, v_fam h ho hn, h2, v_unlike h hs ho hn, zmn_n]
  · rintro n b _
    show fn_X0_isStranger_9 a (nI s) D (n + 1) (nI b.1) (nI b.2) (nI ns) = _
    rw [fn_X0_isStranger_9, h]
    simp (disch := omega) only [Option.bind_some, Option.map_some, zlet_eq, ↓reduceIte, L_2, L_3, L_4, L_5, L_6, L_7, L_8, L_9, L_10, L_12, L_13, L_20, L_24, L_25, L_26, L_27, L_30, L_32, L_33, L_34, L_40, L_48, L_57, L_58, L_60, L_64, L_90, L_93, L_97, L_99, L_100, L_122, L_144, L_255, L_364, L_480, L_500, L_800, L_1000, L_100000, L_4096, L_1023, L_1024, nLe, nLt, nEq, nI_1, nI_add, pk_mul, nSn, nDn, nCl, zck_nI, zdv_nI, nNeg, nLe0, n0Lt, nEq0, nM1, m1N, m1Lt, nLm1, zcb_0, zcb_1, i10, i01, nEq1, n1Eq, nLt1, gI_eq, gI_nb, gI_na, x_badF, x_badT1, x_badT2, bt_0, bt_1, bit1_u, Bool.true_eq_false, Bool.false_eq_true, eq_self, Int32.or_zero, if_pos, if_neg]
def enc (m : Nat) : Int32 := if m = 31 then -1 else nI m
theorem c_strangers (h : iv P D) : fn_X11_strangers D = some (zset (sStr (P 2) (gI D 105) (gI D 107)) (P 2)) := by
  obtain ⟨⟨⟨hb, ⟨a0, a1, a2, a3⟩, ⟨b0, b1, b2, b3⟩, hs, hw⟩, ⟨hc, c1, c2, hcv⟩, ⟨hd, ⟨z0, z1, z2⟩, ⟨y0, y1, y2⟩, hp, ht⟩, ⟨hi, i0, i1, him⟩, ⟨hta, ta0, ta1, hpl, htb⟩⟩, hK, hO⟩ := h
  replace y0 : gI _ 102 34 = nI (P 5) := y0
  replace y1 : gI _ 102 35 = nI (P 6) := y1
  replace y2 : gI _ 102 36 = nI (P 7) := y2
  refine z_for (P 2) (fun n i b => fn_X11_strangers_4 D n b (nI i)) _ some ?_ ?_ 0 zFU 0 (Nat.zero_le _) (zfu_gt (by omega))
  · intro n s b hs'
    show fn_X11_strangers_4 D (n + 1) b (nI s) = fn_X11_strangers_4 D n _ (nI (s + 1))
    have m := c_isStranger a2 hb.2.2.2.2.1 hs'
    rw [sStr_cong hs' fun s hs' => ⟨(hs s hs').1, (hs s hs').2.1⟩] at m
    rw [fn_X11_strangers_4, a2, m]
    cases sStr (P 2) (gI D 105) (gI D 107) s
    · simp (disch := omega) only [Option.bind_some, Option.map_some, zlet_eq, ↓reduceIte, L_2, L_3, L_4, L_5, L_6, L_7, L_8, L_9, L_10, L_12, L_13, L_20, L_24, L_25, L_26, L_27, L_30, L_32, L_33, L_34, L_40, L_48, L_57, L_58, L_60, L_64, L_90, L_93, L_97, L_99, L_100, L_122, L_144, L_255, L_364, L_480, L_500, L_800, L_1000, L_100000, L_4096, L_1023, L_1024, nLe, nLt, nEq, nI_1, nI_add, pk_mul, nSn, nDn, nCl, zck_nI, zdv_nI, nNeg, nLe0, n0Lt, nEq0, nM1, m1N, m1Lt, nLm1, zcb_0, zcb_1, i10, i01, nEq1, n1Eq, nLt1, gI_eq, gI_nb, gI_na, x_badF, x_badT1, x_badT2, bt_0, bt_1, bit1_u, Bool.true_eq_false, Bool.false_eq_true, eq_self, Int32.or_zero, if_pos, if_neg]
    · simp (disch := omega) only [Option.bind_some, Option.map_some, zlet_eq, ↓reduceIte, L_2, L_3, L_4, L_5, L_6, L_7, L_8, L_9, L_10, L_12, L_13, L_20, L_24, L_25, L_26, L_27, L_30, L_32, L_33, L_34, L_40, L_48, L_57, L_58, L_60, L_64, L_90, L_93, L_97, L_99, L_100, L_122, L_144, L_255, L_364, L_480, L_500, L_800, L_1000, L_100000, L_4096, L_1023, L_1024, nLe, nLt, nEq, nI_1, nI_add, pk_mul, nSn, nDn, nCl, zck_nI, zdv_nI, nNeg, nLe0, n0Lt, nEq0, nM1, m1N, m1Lt, nLm1, zcb_0, zcb_1, i10, i01, nEq1, n1Eq, nLt1, gI_eq, gI_nb, gI_na, x_badF, x_badT1, x_badT2, bt_0, bt_1, bit1_u, Bool.true_eq_false, Bool.false_eq_true, eq_self, Int32.or_zero, if_pos, if_neg]
  · intro n b
    show fn_X11_strangers_4 D (n + 1) b (nI (P 2)) = _
    rw [fn_X11_strangers_4, a2]
    simp (disch := omega) only [Option.bind_some, Option.map_some, zlet_eq, ↓reduceIte, L_2, L_3, L_4, L_5, L_6, L_7, L_8, L_9, L_10, L_12, L_13, L_20, L_24, L_25, L_26, L_27, L_30, L_32, L_33, L_34, L_40, L_48, L_57, L_58, L_60, L_64, L_90, L_93, L_97, L_99, L_100, L_122, L_144, L_255, L_364, L_480, L_500, L_800, L_1000, L_100000, L_4096, L_1023, L_1024, nLe, nLt, nEq, nI_1, nI_add, pk_mul, nSn, nDn, nCl, zck_nI, zdv_nI, nNeg, nLe0, n0Lt, nEq0, nM1, m1N, m1Lt, nLm1, zcb_0, zcb_1, i10, i01, nEq1, n1Eq, nLt1, gI_eq, gI_nb, gI_na, x_badF, x_badT1, x_badT2, bt_0, bt_1, bit1_u, Bool.true_eq_false, Bool.false_eq_true, eq_self, Int32.or_zero, if_pos, if_neg]
theorem r_strangers (h : iv P D) : fn_X12_strangers_9 zFU 0 0 D = some (zset (sStr (P 2) (gI D 105) (gI D 107)) (P 2), D) := by
  obtain ⟨⟨⟨hb, ⟨a0, a1, a2, a3⟩, ⟨b0, b1, b2, b3⟩, hs, hw⟩, ⟨hc, c1, c2, hcv⟩, ⟨hd, ⟨z0, z1, z2⟩, ⟨y0, y1, y2⟩, hp, ht⟩, ⟨hi, i0, i1, him⟩, ⟨hta, ta0, ta1, hpl, htb⟩⟩, hK, hO⟩ := h
  replace y0 : gI _ 102 34 = nI (P 5) := y0
  replace y1 : gI _ 102 35 = nI (P 6) := y1
  replace y2 : gI _ 102 36 = nI (P 7) := y2
  have h30 := wh_le (w := P 0) (h := P 1) (by omega) (by omega)
  have hpw : 2 ^ (P 0 * P 1) ≤ 2 ^ 30 := Nat.pow_le_pow_right (by decide) h30
  refine z_for (P 2) (fun n i b => fn_X12_strangers_9 n b (nI i) D) _ (fun b => some (b, D)) ?_ ?_ 0 zFU 0 (Nat.zero_le _) (zfu_gt (by omega))
  · intro n s b hs'
    show fn_X12_strangers_9 (n + 1) b (nI s) D = fn_X12_strangers_9 n _ (nI (s + 1)) D
    rw [fn_X12_strangers_9, b2]
    have hend : ∀ m x y, fn_X12_strangers_25 (fn_X12_strangers_9 n) (m + 1) b (nI s) x y (nI (P 2)) D = fn_X12_strangers_137 (fn_X12_strangers_9 n) b (nI s) x y D := by
      intro m x y
      rw [fn_X12_strangers_25, b2]
      simp (disch := omega) only [Option.bind_some, Option.map_some, zlet_eq, ↓reduceIte, L_2, L_3, L_4, L_5, L_6, L_7, L_8, L_9, L_10, L_12, L_13, L_20, L_24, L_25, L_26, L_27, L_30, L_32, L_33, L_34, L_40, L_48, L_57, L_58, L_60, L_64, L_90, L_93, L_97, L_99, L_100, L_122, L_144, L_255, L_364, L_480, L_500, L_800, L_1000, L_100000, L_4096, L_1023, L_1024, nLe, nLt, nEq, nI_1, nI_add, pk_mul, nSn, nDn, nCl, zck_nI, zdv_nI, nNeg, nLe0, n0Lt, nEq0, nM1, m1N, m1Lt, nLm1, zcb_0, zcb_1, i10, i01, nEq1, n1Eq, nLt1, gI_eq, gI_nb, gI_na, x_badF, x_badT1, x_badT2, bt_0, bt_1, bit1_u, Bool.true_eq_false, Bool.false_eq_true, eq_self, Int32.or_zero, if_pos, if_neg]
    by_cases hf : gI D 107 s = -1
    · have e := z_for (P 2) (fun m o (_ : Unit) => fn_X12_strangers_25 (fn_X12_strangers_9 n) m b (nI s) (-1) (-1) (nI o) D) (fun _ u => u) (fun _ => fn_X12_strangers_137 (fn_X12_strangers_9 n) b (nI s) (-1) (-1) D) ?_ ?_ 0 zFU () (Nat.zero_le _) (zfu_gt (by omega))
      · have e' : fn_X12_strangers_25 (fn_X12_strangers_9 n) zFU b (nI s) (-1) (-1) 0 D = _ := e
        simp (disch := omega) only [Option.bind_some, Option.map_some, zlet_eq, ↓reduceIte, L_2, L_3, L_4, L_5, L_6, L_7, L_8, L_9, L_10, L_12, L_13, L_20, L_24, L_25, L_26, L_27, L_30, L_32, L_33, L_34, L_40, L_48, L_57, L_58, L_60, L_64, L_90, L_93, L_97, L_99, L_100, L_122, L_144, L_255, L_364, L_480, L_500, L_800, L_1000, L_100000, L_4096, L_1023, L_1024, nLe, nLt, nEq, nI_1, nI_add, pk_mul, nSn, nDn, nCl, zck_nI, zdv_nI, nNeg, nLe0, n0Lt, nEq0, nM1, m1N, m1Lt, nLm1, zcb_0, zcb_1, i10, i01, nEq1, n1Eq, nLt1, gI_eq, gI_nb, gI_na, x_badF, x_badT1, x_badT2, bt_0, bt_1, bit1_u, Bool.true_eq_false, Bool.false_eq_true, eq_self, Int32.or_zero, if_pos, if_neg]
        rw [e']
        unfold fn_X12_strangers_137 sStr
        simp (disch := omega) only [Option.bind_some, Option.map_some, zlet_eq, ↓reduceIte, L_2, L_3, L_4, L_5, L_6, L_7, L_8, L_9, L_10, L_12, L_13, L_20, L_24, L_25, L_26, L_27, L_30, L_32, L_33, L_34, L_40, L_48, L_57, L_58, L_60, L_64, L_90, L_93, L_97, L_99, L_100, L_122, L_144, L_255, L_364, L_480, L_500, L_800, L_1000, L_100000, L_4096, L_1023, L_1024, nLe, nLt, nEq, nI_1, nI_add, pk_mul, nSn, nDn, nCl, zck_nI, zdv_nI, nNeg, nLe0, n0Lt, nEq0, nM1, m1N, m1Lt, nLm1, zcb_0, zcb_1, i10, i01, nEq1, n1Eq, nLt1, gI_eq, gI_nb, gI_na, x_badF, x_badT1, x_badT2, bt_0, bt_1, bit1_u, Bool.true_eq_false, Bool.false_eq_true, eq_self, Int32.or_zero, if_pos, if_neg, hf, ne_eq, not_true, decide_false, Bool.false_and]
      · intro m o _ ho
        show fn_X12_strangers_25 (fn_X12_strangers_9 n) (m + 1) b (nI s) (-1) (-1) (nI o) D = fn_X12_strangers_25 (fn_X12_strangers_9 n) m b (nI s) (-1) (-1) (nI (o + 1)) D
        rw [fn_X12_strangers_25, b2]
        simp (disch := omega) only [Option.bind_some, Option.map_some, zlet_eq, ↓reduceIte, L_2, L_3, L_4, L_5, L_6, L_7, L_8, L_9, L_10, L_12, L_13, L_20, L_24, L_25, L_26, L_27, L_30, L_32, L_33, L_34, L_40, L_48, L_57, L_58, L_60, L_64, L_90, L_93, L_97, L_99, L_100, L_122, L_144, L_255, L_364, L_480, L_500, L_800, L_1000, L_100000, L_4096, L_1023, L_1024, nLe, nLt, nEq, nI_1, nI_add, pk_mul, nSn, nDn, nCl, zck_nI, zdv_nI, nNeg, nLe0, n0Lt, nEq0, nM1, m1N, m1Lt, nLm1, zcb_0, zcb_1, i10, i01, nEq1, n1Eq, nLt1, gI_eq, gI_nb, gI_na, x_badF, x_badT1, x_badT2, bt_0, bt_1, bit1_u, Bool.true_eq_false, Bool.false_eq_true, eq_self, Int32.or_zero, if_pos, if_neg, hf, ite_self]
      · intro m _
        exact hend m _ _
    · have e := z_fori (P 2) (fun m o (c : Nat × Nat) => fn_X12_strangers_25 (fn_X12_strangers_9 n) m b (nI s) (enc c.1) (enc c.2) (nI o) D) (fSt (gI D 105) (gI D 107) s) (fun c => fn_X12_strangers_137 (fn_X12_strangers_9 n) b (nI s) (enc c.1) (enc c.2) D) (fun _ c => c.1 ≤ 31 ∧ c.2 ≤ 31) ?_ ?_ 0 zFU (31, 31) (Nat.zero_le _) (zfu_gt (by omega)) ⟨by decide, by decide⟩
      · have e' : fn_X12_strangers_25 (fn_X12_strangers_9 n) zFU b (nI s) (-1) (-1) 0 D = _ := e
        simp (disch := omega) only [Option.bind_some, Option.map_some, zlet_eq, ↓reduceIte, L_2, L_3, L_4, L_5, L_6, L_7, L_8, L_9, L_10, L_12, L_13, L_20, L_24, L_25, L_26, L_27, L_30, L_32, L_33, L_34, L_40, L_48, L_57, L_58, L_60, L_64, L_90, L_93, L_97, L_99, L_100, L_122, L_144, L_255, L_364, L_480, L_500, L_800, L_1000, L_100000, L_4096, L_1023, L_1024, nLe, nLt, nEq, nI_1, nI_add, pk_mul, nSn, nDn, nCl, zck_nI, zdv_nI, nNeg, nLe0, n0Lt, nEq0, nM1, m1N, m1Lt, nLm1, zcb_0, zcb_1, i10, i01, nEq1, n1Eq, nLt1, gI_eq, gI_nb, gI_na, x_badF, x_badT1, x_badT2, bt_0, bt_1, bit1_u, Bool.true_eq_false, Bool.false_eq_true, eq_self, Int32.or_zero, if_pos, if_neg]
        rw [e']
        have hI : (zfo (fSt (gI D 105) (gI D 107) s) (P 2) 0 (31, 31)).1 ≤ 31 ∧ (zfo (fSt (gI D 105) (gI D 107) s) (P 2) 0 (31, 31)).2 ≤ 31 := zfo_inv (σ := Nat × Nat) (N := P 2) (m := P 2) (i := 0) (fun _ b => b.1 ≤ 31 ∧ b.2 ≤ 31) (fun k b _ hb => fSt_le _ _ _ _ hb) (by omega) ⟨by decide, by decide⟩
        unfold sStr
        rw [Nat.sub_zero]
        generalize zfo (fSt (gI D 105) (gI D 107) s) (P 2) 0 (31, 31) = Z at *
        unfold fn_X12_strangers_137 enc
        by_cases h2 : Z.1 ≤ 30
        · by_cases h3 : Z.2 < Z.1
          · simp (disch := omega) only [Option.bind_some, Option.map_some, zlet_eq, ↓reduceIte, L_2, L_3, L_4, L_5, L_6, L_7, L_8, L_9, L_10, L_12, L_13, L_20, L_24, L_25, L_26, L_27, L_30, L_32, L_33, L_34, L_40, L_48, L_57, L_58, L_60, L_64, L_90, L_93, L_97, L_99, L_100, L_122, L_144, L_255, L_364, L_480, L_500, L_800, L_1000, L_100000, L_4096, L_1023, L_1024, nLe, nLt, nEq, nI_1, nI_add, pk_mul, nSn, nDn, nCl, zck_nI, zdv_nI, nNeg, nLe0, n0Lt, nEq0, nM1, m1N, m1Lt, nLm1, zcb_0, zcb_1, i10, i01, nEq1, n1Eq, nLt1, gI_eq, gI_nb, gI_na, x_badF, x_badT1, x_badT2, bt_0, bt_1, bit1_u, Bool.true_eq_false, Bool.false_eq_true, eq_self, Int32.or_zero, if_pos, if_neg, hf, ne_eq, not_false_eq_true, decide_true, decide_eq_true h2, decide_eq_true h3, Bool.true_and]
          · by_cases h4 : Z.2 = 31
            · simp (disch := omega) only [Option.bind_some, Option.map_some, zlet_eq, ↓reduceIte, L_2, L_3, L_4, L_5, L_6, L_7, L_8, L_9, L_10, L_12, L_13, L_20, L_24, L_25, L_26, L_27, L_30, L_32, L_33, L_34, L_40, L_48, L_57, L_58, L_60, L_64, L_90, L_93, L_97, L_99, L_100, L_122, L_144, L_255, L_364, L_480, L_500, L_800, L_1000, L_100000, L_4096, L_1023, L_1024, nLe, nLt, nEq, nI_1, nI_add, pk_mul, nSn, nDn, nCl, zck_nI, zdv_nI, nNeg, nLe0, n0Lt, nEq0, nM1, m1N, m1Lt, nLm1, zcb_0, zcb_1, i10, i01, nEq1, n1Eq, nLt1, gI_eq, gI_nb, gI_na, x_badF, x_badT1, x_badT2, bt_0, bt_1, bit1_u, Bool.true_eq_false, Bool.false_eq_true, eq_self, Int32.or_zero, if_pos, if_neg, hf, ne_eq, not_false_eq_true, decide_true, decide_eq_false (show ¬ 31 < Z.1 by omega), Bool.and_false, h4]
            · simp (disch := omega) only [Option.bind_some, Option.map_some, zlet_eq, ↓reduceIte, L_2, L_3, L_4, L_5, L_6, L_7, L_8, L_9, L_10, L_12, L_13, L_20, L_24, L_25, L_26, L_27, L_30, L_32, L_33, L_34, L_40, L_48, L_57, L_58, L_60, L_64, L_90, L_93, L_97, L_99, L_100, L_122, L_144, L_255, L_364, L_480, L_500, L_800, L_1000, L_100000, L_4096, L_1023, L_1024, nLe, nLt, nEq, nI_1, nI_add, pk_mul, nSn, nDn, nCl, zck_nI, zdv_nI, nNeg, nLe0, n0Lt, nEq0, nM1, m1N, m1Lt, nLm1, zcb_0, zcb_1, i10, i01, nEq1, n1Eq, nLt1, gI_eq, gI_nb, gI_na, x_badF, x_badT1, x_badT2, bt_0, bt_1, bit1_u, Bool.true_eq_false, Bool.false_eq_true, eq_self, Int32.or_zero, if_pos, if_neg, hf, ne_eq, not_false_eq_true, decide_true, decide_eq_false h3, Bool.and_false, h4]
        · simp (disch := omega) only [Option.bind_some, Option.map_some, zlet_eq, ↓reduceIte, L_2, L_3, L_4, L_5, L_6, L_7, L_8, L_9, L_10, L_12, L_13, L_20, L_24, L_25, L_26, L_27, L_30, L_32, L_33, L_34, L_40, L_48, L_57, L_58, L_60, L_64, L_90, L_93, L_97, L_99, L_100, L_122, L_144, L_255, L_364, L_480, L_500, L_800, L_1000, L_100000, L_4096, L_1023, L_1024, nLe, nLt, nEq, nI_1, nI_add, pk_mul, nSn, nDn, nCl, zck_nI, zdv_nI, nNeg, nLe0, n0Lt, nEq0, nM1, m1N, m1Lt, nLm1, zcb_0, zcb_1, i10, i01, nEq1, n1Eq, nLt1, gI_eq, gI_nb, gI_na, x_badF, x_badT1, x_badT2, bt_0, bt_1, bit1_u, Bool.true_eq_false, Bool.false_eq_true, eq_self, Int32.or_zero, if_pos, if_neg, hf, ne_eq, not_false_eq_true, decide_true, decide_eq_false (show ¬ 31 ≤ 30 by omega), Bool.and_false, Bool.false_and, show Z.1 = 31 by omega]
      · rintro m o ⟨x, y⟩ ho ⟨hx, hy⟩
        refine ⟨?_, fSt_le _ _ _ _ ⟨hx, hy⟩⟩
        show fn_X12_strangers_25 (fn_X12_strangers_9 n) (m + 1) b (nI s) (enc x) (enc y) (nI o) D = fn_X12_strangers_25 (fn_X12_strangers_9 n) m b (nI s) (enc (fSt _ _ s o (x, y)).1) (enc (fSt _ _ s o (x, y)).2) (nI (o + 1)) D
        have hx' : x ≤ 31 := hx
        have hy' : y ≤ 31 := hy
        have hbb := pc_un (c := 30) (by omega) (un_xor (by omega) (Nat.lt_of_lt_of_le (hs s hs').2.2.1 hpw) (Nat.lt_of_lt_of_le (hs o ho).2.2.1 hpw))
        rw [fn_X12_strangers_25, b2]
        unfold fSt
        by_cases h1 : o = s
        · subst h1
          simp (disch := omega) only [Option.bind_some, Option.map_some, zlet_eq, ↓reduceIte, L_2, L_3, L_4, L_5, L_6, L_7, L_8, L_9, L_10, L_12, L_13, L_20, L_24, L_25, L_26, L_27, L_30, L_32, L_33, L_34, L_40, L_48, L_57, L_58, L_60, L_64, L_90, L_93, L_97, L_99, L_100, L_122, L_144, L_255, L_364, L_480, L_500, L_800, L_1000, L_100000, L_4096, L_1023, L_1024, nLe, nLt, nEq, nI_1, nI_add, pk_mul, nSn, nDn, nCl, zck_nI, zdv_nI, nNeg, nLe0, n0Lt, nEq0, nM1, m1N, m1Lt, nLm1, zcb_0, zcb_1, i10, i01, nEq1, n1Eq, nLt1, gI_eq, gI_nb, gI_na, x_badF, x_badT1, x_badT2, bt_0, bt_1, bit1_u, Bool.true_eq_false, Bool.false_eq_true, eq_self, Int32.or_zero, if_pos, if_neg]
        · generalize hB : pc (gI D 105 s ^^^ gI D 105 o) = B at *
          by_cases h2 : gI D 107 o = gI D 107 s
          · unfold enc
            by_cases h3 : x = 31
            · simp (disch := omega) only [Option.bind_some, Option.map_some, zlet_eq, ↓reduceIte, L_2, L_3, L_4, L_5, L_6, L_7, L_8, L_9, L_10, L_12, L_13, L_20, L_24, L_25, L_26, L_27, L_30, L_32, L_33, L_34, L_40, L_48, L_57, L_58, L_60, L_64, L_90, L_93, L_97, L_99, L_100, L_122, L_144, L_255, L_364, L_480, L_500, L_800, L_1000, L_100000, L_4096, L_1023, L_1024, nLe, nLt, nEq, nI_1, nI_add, pk_mul, nSn, nDn, nCl, zck_nI, zdv_nI, nNeg, nLe0, n0Lt, nEq0, nM1, m1N, m1Lt, nLm1, zcb_0, zcb_1, i10, i01, nEq1, n1Eq, nLt1, gI_eq, gI_nb, gI_na, x_badF, x_badT1, x_badT2, bt_0, bt_1, bit1_u, Bool.true_eq_false, Bool.false_eq_true, eq_self, Int32.or_zero, if_pos, if_neg, hf, h1, h2, z_ones, hB, h3, Nat.min_eq_right]
            · by_cases h4 : x ≤ B
              · simp (disch := omega) only [Option.bind_some, Option.map_some, zlet_eq, ↓reduceIte, L_2, L_3, L_4, L_5, L_6, L_7, L_8, L_9, L_10, L_12, L_13, L_20, L_24, L_25, L_26, L_27, L_30, L_32, L_33, L_34, L_40, L_48, L_57, L_58, L_60, L_64, L_90, L_93, L_97, L_99, L_100, L_122, L_144, L_255, L_364, L_480, L_500, L_800, L_1000, L_100000, L_4096, L_1023, L_1024, nLe, nLt, nEq, nI_1, nI_add, pk_mul, nSn, nDn, nCl, zck_nI, zdv_nI, nNeg, nLe0, n0Lt, nEq0, nM1, m1N, m1Lt, nLm1, zcb_0, zcb_1, i10, i01, nEq1, n1Eq, nLt1, gI_eq, gI_nb, gI_na, x_badF, x_badT1, x_badT2, bt_0, bt_1, bit1_u, Bool.true_eq_false, Bool.false_eq_true, eq_self, Int32.or_zero, if_pos, if_neg, hf, h1, h2, z_ones, hB, h3, Nat.min_eq_left h4]
              · simp (disch := omega) only [Option.bind_some, Option.map_some, zlet_eq, ↓reduceIte, L_2, L_3, L_4, L_5, L_6, L_7, L_8, L_9, L_10, L_12, L_13, L_20, L_24, L_25, L_26, L_27, L_30, L_32, L_33, L_34, L_40, L_48, L_57, L_58, L_60, L_64, L_90, L_93, L_97, L_99, L_100, L_122, L_144, L_255, L_364, L_480, L_500, L_800, L_1000, L_100000, L_4096, L_1023, L_1024, nLe, nLt, nEq, nI_1, nI_add, pk_mul, nSn, nDn, nCl, zck_nI, zdv_nI, nNeg, nLe0, n0Lt, nEq0, nM1, m1N, m1Lt, nLm1, zcb_0, zcb_1, i10, i01, nEq1, n1Eq, nLt1, gI_eq, gI_nb, gI_na, x_badF, x_badT1, x_badT2, bt_0, bt_1, bit1_u, Bool.true_eq_false, Bool.false_eq_true, eq_self, Int32.or_zero, if_pos, if_neg, hf, h1, h2, z_ones, hB, h3, Nat.min_eq_right]
          · unfold enc
            by_cases h3 : y = 31
            · simp (disch := omega) only [Option.bind_some, Option.map_some, zlet_eq, ↓reduceIte, L_2, L_3, L_4, L_5, L_6, L_7, L_8, L_9, L_10, L_12, L_13, L_20, L_24, L_25, L_26, L_27, L_30, L_32, L_33, L_34, L_40, L_48, L_57, L_58, L_60, L_64, L_90, L_93, L_97, L_99, L_100, L_122, L_144, L_255, L_364, L_480, L_500, L_800, L_1000, L_100000, L_4096, L_1023, L_1024, nLe, nLt, nEq, nI_1, nI_add, pk_mul, nSn, nDn, nCl, zck_nI, zdv_nI, nNeg, nLe0, n0Lt, nEq0, nM1, m1N, m1Lt, nLm1, zcb_0, zcb_1, i10, i01, nEq1, n1Eq, nLt1, gI_eq, gI_nb, gI_na, x_badF, x_badT1, x_badT2, bt_0, bt_1, bit1_u, Bool.true_eq_false, Bool.false_eq_true, eq_self, Int32.or_zero, if_pos, if_neg, hf, h1, h2, z_ones, hB, h3, Nat.min_eq_right]
            · by_cases h4 : y ≤ B
              · simp (disch := omega) only [Option.bind_some, Option.map_some, zlet_eq, ↓reduceIte, L_2, L_3, L_4, L_5, L_6, L_7, L_8, L_9, L_10, L_12, L_13, L_20, L_24, L_25, L_26, L_27, L_30, L_32, L_33, L_34, L_40, L_48, L_57, L_58, L_60, L_64, L_90, L_93, L_97, L_99, L_100, L_122, L_144, L_255, L_364, L_480, L_500, L_800, L_1000, L_100000, L_4096, L_1023, L_1024, nLe, nLt, nEq, nI_1, nI_add, pk_mul, nSn, nDn, nCl, zck_nI, zdv_nI, nNeg, nLe0, n0Lt, nEq0, nM1, m1N, m1Lt, nLm1, zcb_0, zcb_1, i10, i01, nEq1, n1Eq, nLt1, gI_eq, gI_nb, gI_na, x_badF, x_badT1, x_badT2, bt_0, bt_1, bit1_u, Bool.true_eq_false, Bool.false_eq_true, eq_self, Int32.or_zero, if_pos, if_neg, hf, h1, h2, z_ones, hB, h3, Nat.min_eq_left h4]
              · simp (disch := omega) only [Option.bind_some, Option.map_some, zlet_eq, ↓reduceIte, L_2, L_3, L_4, L_5, L_6, L_7, L_8, L_9, L_10, L_12, L_13, L_20, L_24, L_25, L_26, L_27, L_30, L_32, L_33, L_34, L_40, L_48, L_57, L_58, L_60, L_64, L_90, L_93, L_97, L_99, L_100, L_122, L_144, L_255, L_364, L_480, L_500, L_800, L_1000, L_100000, L_4096, L_1023, L_1024, nLe, nLt, nEq, nI_1, nI_add, pk_mul, nSn, nDn, nCl, zck_nI, zdv_nI, nNeg, nLe0, n0Lt, nEq0, nM1, m1N, m1Lt, nLm1, zcb_0, zcb_1, i10, i01, nEq1, n1Eq, nLt1, gI_eq, gI_nb, gI_na, x_badF, x_badT1, x_badT2, bt_0, bt_1, bit1_u, Bool.true_eq_false, Bool.false_eq_true, eq_self, Int32.or_zero, if_pos, if_neg, hf, h1, h2, z_ones, hB, h3, Nat.min_eq_right]
      · rintro m c _
        exact hend m _ _
  · intro n b
    show fn_X12_strangers_9 (n + 1) b (nI (P 2)) D = _
    rw [fn_X12_strangers_9, b2]
    simp (disch := omega) only [Option.bind_some, Option.map_some, zlet_eq, ↓reduceIte, L_2, L_3, L_4, L_5, L_6, L_7, L_8, L_9, L_10, L_12, L_13, L_20, L_24, L_25, L_26, L_27, L_30, L_32, L_33, L_34, L_40, L_48, L_57, L_58, L_60, L_64, L_90, L_93, L_97, L_99, L_100, L_122, L_144, L_255, L_364, L_480, L_500, L_800, L_1000, L_100000, L_4096, L_1023, L_1024, nLe, nLt, nEq, nI_1, nI_add, pk_mul, nSn, nDn, nCl, zck_nI, zdv_nI, nNeg, nLe0, n0Lt, nEq0, nM1, m1N, m1Lt, nLm1, zcb_0, zcb_1, i10, i01, nEq1, n1Eq, nLt1, gI_eq, gI_nb, gI_na, x_badF, x_badT1, x_badT2, bt_0, bt_1, bit1_u, Bool.true_eq_false, Bool.false_eq_true, eq_self, Int32.or_zero, if_pos, if_neg]
theorem t_strangers (h : iv P D) : duo (fun D => (fn_X11_strangers D).map fun x => (x, D)) fn_X12_strangers D := by
  have e1 := c_strangers h
  have e2 := r_strangers (h.thr 0)
  rw [gIf (by omega), gIf (by omega)] at e2
  unfold duo fn_X12_strangers
  simp (disch := omega) only [Option.bind_some, Option.map_some, zlet_eq, ↓reduceIte, L_2, L_3, L_4, L_5, L_6, L_7, L_8, L_9, L_10, L_12, L_13, L_20, L_24, L_25, L_26, L_27, L_30, L_32, L_33, L_34, L_40, L_48, L_57, L_58, L_60, L_64, L_90, L_93, L_97, L_99, L_100, L_122, L_144, L_255, L_364, L_480, L_500, L_800, L_1000, L_100000, L_4096, L_1023, L_1024, nLe, nLt, nEq, nI_1, nI_add, pk_mul, nSn, nDn, nCl, zck_nI, zdv_nI, nNeg, nLe0, n0Lt, nEq0, nM1, m1N, m1Lt, nLm1, zcb_0, zcb_1, i10, i01, nEq1, n1Eq, nLt1, gI_eq, gI_nb, gI_na, x_badF, x_badT1, x_badT2, bt_0, bt_1, bit1_u, Bool.true_eq_false, Bool.false_eq_true, eq_self, Int32.or_zero, if_pos, if_neg, e1, e2, zok_some]
  exact ⟨⟨P, h.thr 0⟩, trivial⟩
end M57
