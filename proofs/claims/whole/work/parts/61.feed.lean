/-! THE MATHEMATICS: the tape fed -/
theorem L_11 : (11 : Int32) = nI 11 := rfl
theorem L_14 : (14 : Int32) = nI 14 := rfl
theorem L_15 : (15 : Int32) = nI 15 := rfl
theorem L_16 : (16 : Int32) = nI 16 := rfl
theorem L_17 : (17 : Int32) = nI 17 := rfl
theorem L_18 : (18 : Int32) = nI 18 := rfl
theorem L_19 : (19 : Int32) = nI 19 := rfl
theorem L_21 : (21 : Int32) = nI 21 := rfl
theorem L_22 : (22 : Int32) = nI 22 := rfl
theorem L_23 : (23 : Int32) = nI 23 := rfl
theorem L_28 : (28 : Int32) = nI 28 := rfl
theorem L_29 : (29 : Int32) = nI 29 := rfl
theorem z_24 : nI 24 + (-8 : Int32) = nI 16 := by decide
theorem z_16 : nI 16 + (-8 : Int32) = nI 8 := by decide
theorem z_8 : nI 8 + (-8 : Int32) = nI 0 := by decide
theorem z_0m : nI 0 + (-8 : Int32) = -8 := by decide
theorem z_m8 : ((-8 : Int32) < 0) = True := eq_true (by decide)
theorem nar_b (x : Int32) : vp_nar .byte x = x.toInt8.toInt32 := rfl
/-- byte k of a number: the highest first -/
def bwd (v : Int32) (k : Nat) : Int32 := v >>> (nI (24 - 8 * k) &&& 31)
section M61
variable {D : zD} {P : Nat → Nat}
theorem c_put {t : Nat} (v : Int32) (h : gI D 0 17 = nI t) (ht : t + 4 ≤ 500) : zok (fn_X11_putNumber v D) fun F => gI F 0 17 = nI (t + 4) ∧ (∀ k, k < 4 → gI F 1 (t + k) = (bwd v k).toInt8.toInt32) ∧ (∀ k, k < t → gI F 1 k = gI D 1 k) ∧ ∀ a b, a ≠ 1 → ¬ (a = 0 ∧ b = 17) → gI F a b = gI D a b := by
  unfold fn_X11_putNumber
  have key : ∀ (k : Nat) (x y : Int32) (n : Nat) (E : zD), k < 4 → x = nI (24 - 8 * k) → y = x + (-8) → gI E 0 17 = nI (t + k) → fn_X11_putNumber_3 v (n + 1) x E = fn_X11_putNumber_3 v n y (sI (sI E 1 (t + k) (bwd v k).toInt8.toInt32) 0 17 (nI (t + k + 1))) := by
    intro k x y n E hk hx hy hE
    rw [fn_X11_putNumber_3, hE, hx, hy, hx]
    rw [if_neg (nI_pos (by omega)), if_neg (nI_pos (by omega)), if_neg (show ¬ Int32.ofNat 500 ≤ nI (t + k) from nI_ge (b := 500) (by omega) (by omega)), nar_b, fb_byte_twice]
    simp (disch := omega) only [Option.bind_some, Option.map_some, zlet_eq, ↓reduceIte, L_2, L_3, L_4, L_5, L_6, L_7, L_8, L_9, L_10, L_12, L_13, L_20, L_24, L_25, L_26, L_27, L_30, L_32, L_33, L_34, L_40, L_48, L_57, L_58, L_60, L_64, L_90, L_93, L_97, L_99, L_100, L_122, L_144, L_255, L_364, L_480, L_500, L_800, L_1000, L_100000, L_4096, L_1023, L_1024, nLe, nLt, nEq, nI_1, nI_add, pk_mul, nSn, nDn, nCl, zck_nI, zdv_nI, nNeg, nLe0, n0Lt, nEq0, nM1, m1N, m1Lt, nLm1, zcb_0, zcb_1, i10, i01, nEq1, n1Eq, nLt1, gI_eq, gI_nb, gI_na, x_badF, x_badT1, x_badT2, bt_0, bt_1, bit1_u, Bool.true_eq_false, Bool.false_eq_true, eq_self, Int32.or_zero, L_11, L_14, L_15, L_16, L_17, L_18, L_19, L_21, L_22, L_23, L_28, L_29, if_pos, if_neg, hE]
    unfold bwd
    rfl
  show zok (fn_X11_putNumber_3 v (4294967291 + 1 + 1 + 1 + 1 + 1) (nI 24) D) _
  rw [key 0 _ (nI 16) _ _ (by omega) rfl z_24.symm h, key 1 _ (nI 8) _ _ (by omega) rfl z_16.symm (by simp (disch := omega) only [Option.bind_some, Option.map_some, zlet_eq, ↓reduceIte, L_2, L_3, L_4, L_5, L_6, L_7, L_8, L_9, L_10, L_12, L_13, L_20, L_24, L_25, L_26, L_27, L_30, L_32, L_33, L_34, L_40, L_48, L_57, L_58, L_60, L_64, L_90, L_93, L_97, L_99, L_100, L_122, L_144, L_255, L_364, L_480, L_500, L_800, L_1000, L_100000, L_4096, L_1023, L_1024, nLe, nLt, nEq, nI_1, nI_add, pk_mul, nSn, nDn, nCl, zck_nI, zdv_nI, nNeg, nLe0, n0Lt, nEq0, nM1, m1N, m1Lt, nLm1, zcb_0, zcb_1, i10, i01, nEq1, n1Eq, nLt1, gI_eq, gI_nb, gI_na, x_badF, x_badT1, x_badT2, bt_0, bt_1, bit1_u, Bool.true_eq_false, Bool.false_eq_true, eq_self, Int32.or_zero, L_11, L_14, L_15, L_16, L_17, L_18, L_19, L_21, L_22, L_23, L_28, L_29, if_pos, if_neg]), key 2 _ (nI 0) _ _ (by omega) rfl z_8.symm (by simp (disch := omega) only [Option.bind_some, Option.map_some, zlet_eq, ↓reduceIte, L_2, L_3, L_4, L_5, L_6, L_7, L_8, L_9, L_10, L_12, L_13, L_20, L_24, L_25, L_26, L_27, L_30, L_32, L_33, L_34, L_40, L_48, L_57, L_58, L_60, L_64, L_90, L_93, L_97, L_99, L_100, L_122, L_144, L_255, L_364, L_480, L_500, L_800, L_1000, L_100000, L_4096, L_1023, L_1024, nLe, nLt, nEq, nI_1, nI_add, pk_mul, nSn, nDn, nCl, zck_nI, zdv_nI, nNeg, nLe0, n0Lt, nEq0, nM1, m1N, m1Lt, nLm1, zcb_0, zcb_1, i10, i01, nEq1, n1Eq, nLt1, gI_eq, gI_nb, gI_na, x_badF, x_badT1, x_badT2, bt_0, bt_1, bit1_u, Bool.true_eq_false, Bool.false_eq_true, eq_self, Int32.or_zero, L_11, L_14, L_15, L_16, L_17, L_18, L_19, L_21, L_22, L_23, L_28, L_29, if_pos, if_neg]), key 3 _ (-8) _ _ (by omega) rfl z_0m.symm (by simp (disch := omega) only [Option.bind_some, Option.map_some, zlet_eq, ↓reduceIte, L_2, L_3, L_4, L_5, L_6, L_7, L_8, L_9, L_10, L_12, L_13, L_20, L_24, L_25, L_26, L_27, L_30, L_32, L_33, L_34, L_40, L_48, L_57, L_58, L_60, L_64, L_90, L_93, L_97, L_99, L_100, L_122, L_144, L_255, L_364, L_480, L_500, L_800, L_1000, L_100000, L_4096, L_1023, L_1024, nLe, nLt, nEq, nI_1, nI_add, pk_mul, nSn, nDn, nCl, zck_nI, zdv_nI, nNeg, nLe0, n0Lt, nEq0, nM1, m1N, m1Lt, nLm1, zcb_0, zcb_1, i10, i01, nEq1, n1Eq, nLt1, gI_eq, gI_nb, gI_na, x_badF, x_badT1, x_badT2, bt_0, bt_1, bit1_u, Bool.true_eq_false, Bool.false_eq_true, eq_self, Int32.or_zero, L_11, L_14, L_15, L_16, L_17, L_18, L_19, L_21, L_22, L_23, L_28, L_29, if_pos, if_neg]), fn_X11_putNumber_3, if_pos (by decide), zok_some]
  refine ⟨gI_eq, fun k hk => ?_, fun k hk => ?_, fun a b h1 h2 => ?_⟩
  · rcases (show k = 0 ∨ k = 1 ∨ k = 2 ∨ k = 3 by omega) with rfl | rfl | rfl | rfl
    · simp (disch := omega) only [Option.bind_some, Option.map_some, zlet_eq, ↓reduceIte, L_2, L_3, L_4, L_5, L_6, L_7, L_8, L_9, L_10, L_12, L_13, L_20, L_24, L_25, L_26, L_27, L_30, L_32, L_33, L_34, L_40, L_48, L_57, L_58, L_60, L_64, L_90, L_93, L_97, L_99, L_100, L_122, L_144, L_255, L_364, L_480, L_500, L_800, L_1000, L_100000, L_4096, L_1023, L_1024, nLe, nLt, nEq, nI_1, nI_add, pk_mul, nSn, nDn, nCl, zck_nI, zdv_nI, nNeg, nLe0, n0Lt, nEq0, nM1, m1N, m1Lt, nLm1, zcb_0, zcb_1, i10, i01, nEq1, n1Eq, nLt1, gI_eq, gI_nb, gI_na, x_badF, x_badT1, x_badT2, bt_0, bt_1, bit1_u, Bool.true_eq_false, Bool.false_eq_true, eq_self, Int32.or_zero, L_11, L_14, L_15, L_16, L_17, L_18, L_19, L_21, L_22, L_23, L_28, L_29, if_pos, if_neg, Nat.add_zero]
    · simp (disch := omega) only [Option.bind_some, Option.map_some, zlet_eq, ↓reduceIte, L_2, L_3, L_4, L_5, L_6, L_7, L_8, L_9, L_10, L_12, L_13, L_20, L_24, L_25, L_26, L_27, L_30, L_32, L_33, L_34, L_40, L_48, L_57, L_58, L_60, L_64, L_90, L_93, L_97, L_99, L_100, L_122, L_144, L_255, L_364, L_480, L_500, L_800, L_1000, L_100000, L_4096, L_1023, L_1024, nLe, nLt, nEq, nI_1, nI_add, pk_mul, nSn, nDn, nCl, zck_nI, zdv_nI, nNeg, nLe0, n0Lt, nEq0, nM1, m1N, m1Lt, nLm1, zcb_0, zcb_1, i10, i01, nEq1, n1Eq, nLt1, gI_eq, gI_nb, gI_na, x_badF, x_badT1, x_badT2, bt_0, bt_1, bit1_u, Bool.true_eq_false, Bool.false_eq_true, eq_self, Int32.or_zero, L_11, L_14, L_15, L_16, L_17, L_18, L_19, L_21, L_22, L_23, L_28, L_29, if_pos, if_neg]
    · simp (disch := omega) only [Option.bind_some, Option.map_some, zlet_eq, ↓reduceIte, L_2, L_3, L_4, L_5, L_6, L_7, L_8, L_9, L_10, L_12, L_13, L_20, L_24, L_25, L_26, L_27, L_30, L_32, L_33, L_34, L_40, L_48, L_57, L_58, L_60, L_64, L_90, L_93, L_97, L_99, L_100, L_122, L_144, L_255, L_364, L_480, L_500, L_800, L_1000, L_100000, L_4096, L_1023, L_1024, nLe, nLt, nEq, nI_1, nI_add, pk_mul, nSn, nDn, nCl, zck_nI, zdv_nI, nNeg, nLe0, n0Lt, nEq0, nM1, m1N, m1Lt, nLm1, zcb_0, zcb_1, i10, i01, nEq1, n1Eq, nLt1, gI_eq, gI_nb, gI_na, x_badF, x_badT1, x_badT2, bt_0, bt_1, bit1_u, Bool.true_eq_false, Bool.false_eq_true, eq_self, Int32.or_zero, L_11, L_14, L_15, L_16, L_17, L_18, L_19, L_21, L_22, L_23, L_28, L_29, if_pos, if_neg]
    · simp (disch := omega) only [Option.bind_some, Option.map_some, zlet_eq, ↓reduceIte, L_2, L_3, L_4, L_5, L_6, L_7, L_8, L_9, L_10, L_12, L_13, L_20, L_24, L_25, L_26, L_27, L_30, L_32, L_33, L_34, L_40, L_48, L_57, L_58, L_60, L_64, L_90, L_93, L_97, L_99, L_100, L_122, L_144, L_255, L_364, L_480, L_500, L_800, L_1000, L_100000, L_4096, L_1023, L_1024, nLe, nLt, nEq, nI_1, nI_add, pk_mul, nSn, nDn, nCl, zck_nI, zdv_nI, nNeg, nLe0, n0Lt, nEq0, nM1, m1N, m1Lt, nLm1, zcb_0, zcb_1, i10, i01, nEq1, n1Eq, nLt1, gI_eq, gI_nb, gI_na, x_badF, x_badT1, x_badT2, bt_0, bt_1, bit1_u, Bool.true_eq_false, Bool.false_eq_true, eq_self, Int32.or_zero, L_11, L_14, L_15, L_16, L_17, L_18, L_19, L_21, L_22, L_23, L_28, L_29, if_pos, if_neg]
  · simp (disch := omega) only [Option.bind_some, Option.map_some, zlet_eq, ↓reduceIte, L_2, L_3, L_4, L_5, L_6, L_7, L_8, L_9, L_10, L_12, L_13, L_20, L_24, L_25, L_26, L_27, L_30, L_32, L_33, L_34, L_40, L_48, L_57, L_58, L_60, L_64, L_90, L_93, L_97, L_99, L_100, L_122, L_144, L_255, L_364, L_480, L_500, L_800, L_1000, L_100000, L_4096, L_1023, L_1024, nLe, nLt, nEq, nI_1, nI_add, pk_mul, nSn, nDn, nCl, zck_nI, zdv_nI, nNeg, nLe0, n0Lt, nEq0, nM1, m1N, m1Lt, nLm1, zcb_0, zcb_1, i10, i01, nEq1, n1Eq, nLt1, gI_eq, gI_nb, gI_na, x_badF, x_badT1, x_badT2, bt_0, bt_1, bit1_u, Bool.true_eq_false, Bool.false_eq_true, eq_self, Int32.or_zero, L_11, L_14, L_15, L_16, L_17, L_18, L_19, L_21, L_22, L_23, L_28, L_29, if_pos, if_neg]
  · have e0 : ∀ (E : zD) (x : Int32), gI (sI E 0 17 x) a b = gI E a b := fun E x => if_neg h2
    rw [e0, gI_na h1, e0, gI_na h1, e0, gI_na h1, e0, gI_na h1]
def bws (a b c d e : Int32) (k : Nat) : Int32 := bwd (if k < 4 then a else if k < 8 then b else if k < 12 then c else if k < 16 then d else e) (k % 4)
theorem c_feed {t : Nat} (a b c d e : Int32) (h : gI D 0 17 = nI t) (ht : t ≤ 480) : zok (fn_X11_feed a b c d e D) fun q => q.1 = nI (t + 20) ∧ gI q.2 0 17 = nI (t + 20) ∧ (∀ k, k < 20 → gI q.2 1 (t + k) = (bws a b c d e k).toInt8.toInt32) ∧ (∀ k, k < t → gI q.2 1 k = gI D 1 k) ∧ ∀ x y, x ≠ 1 → ¬ (x = 0 ∧ y = 17) → gI q.2 x y = gI D x y := by
  unfold fn_X11_feed
  rw [h, if_pos (show nI t ≤ (480 : Int32) from nI_le (b := 480) ht (by omega))]
  refine (c_put a h (by omega)).bind fun D1 ⟨p1, p2, p3, p4⟩ => ?_
  refine (c_put b p1 (by omega)).bind fun D2 ⟨q1, q2, q3, q4⟩ => ?_
  refine (c_put c q1 (by omega)).bind fun D3 ⟨r1, r2, r3, r4⟩ => ?_
  refine (c_put d r1 (by omega)).bind fun D4 ⟨s1, s2, s3, s4⟩ => ?_
  refine (c_put e s1 (by omega)).bind fun D5 ⟨u1, u2, u3, u4⟩ => ?_
  rw [zok_some]
  refine ⟨u1, u1, fun k hk => ?_, fun k hk => ?_, fun x y h1 h2 => ?_⟩
  · unfold bws
    show gI D5 1 (t + k) = _
    by_cases k1 : k < 4
    · rw [if_pos k1, u3 _ (by omega), s3 _ (by omega), r3 _ (by omega), q3 _ (by omega), p2 k k1, Nat.mod_eq_of_lt k1]
    · by_cases k2 : k < 8
      · rw [if_neg k1, if_pos k2, u3 _ (by omega), s3 _ (by omega), r3 _ (by omega), show t + k = t + 4 + (k - 4) by omega, q2 _ (by omega), show k % 4 = k - 4 by omega]
      · by_cases k3 : k < 12
        · rw [if_neg k1, if_neg k2, if_pos k3, u3 _ (by omega), s3 _ (by omega), show t + k = t + 4 + 4 + (k - 8) by omega, r2 _ (by omega), show k % 4 = k - 8 by omega]
        · by_cases k4 : k < 16
          · rw [if_neg k1, if_neg k2, if_neg k3, if_pos k4, u3 _ (by omega), show t + k = t + 4 + 4 + 4 + (k - 12) by omega, s2 _ (by omega), show k % 4 = k - 12 by omega]
          · rw [if_neg k1, if_neg k2, if_neg k3, if_neg k4, show t + k = t + 4 + 4 + 4 + 4 + (k - 16) by omega, u2 _ (by omega), show k % 4 = k - 16 by omega]
  · show gI D5 1 k = _
    rw [u3 _ (by omega), s3 _ (by omega), r3 _ (by omega), q3 _ (by omega), p3 _ hk]
  · show gI D5 x y = _
    rw [u4 _ _ h1 h2, s4 _ _ h1 h2, r4 _ _ h1 h2, q4 _ _ h1 h2, p4 _ _ h1 h2]
theorem r_feed {t : Nat} (a b c d e : Int32) (h : gI D 102 1 = nI t) (ht : t ≤ 480) : zok (fn_X12_feed_23 a b c d e zFU 0 D) fun q => q.1 = nI (t + 20) ∧ gI q.2 102 1 = nI (t + 20) ∧ (∀ k, k < 20 → gI q.2 103 (t + k) = bws a b c d e k &&& 255) ∧ (∀ k, k < t → gI q.2 103 k = gI D 103 k) ∧ ∀ x y, x ≠ 103 → ¬ (x = 102 ∧ y = 1) → gI q.2 x y = gI D x y := by
  refine z_inv 20 (fun n i (E : zD) => fn_X12_feed_23 a b c d e n (nI i) E) (fun i E => gI E 102 1 = nI (t + i) ∧ (∀ k, k < i → gI E 103 (t + k) = bws a b c d e k &&& 255) ∧ (∀ k, k < t → gI E 103 k = gI D 103 k) ∧ ∀ x y, x ≠ 103 → ¬ (x = 102 ∧ y = 1) → gI E x y = gI D x y) _ ?_ ?_ 0 zFU D (by omega) (zfu_gt (by omega)) ⟨h, fun k hk => by omega, fun k _ => rfl, fun x y _ _ => rfl⟩
  · intro n i E hi ⟨e1, e2, e3, e4⟩ ih
    show zok (fn_X12_feed_23 a b c d e (n + 1) (nI i) E) _
    have key : ∀ w, w = (if i < 4 then a else if i < 8 then b else if i < 12 then c else if i < 16 then d else e) → zok (fn_X12_feed_76 a b c d e (fn_X12_feed_23 a b c d e n) (nI i) w E) fun q => q.1 = nI (t + 20) ∧ gI q.2 102 1 = nI (t + 20) ∧ (∀ k, k < 20 → gI q.2 103 (t + k) = bws a b c d e k &&& 255) ∧ (∀ k, k < t → gI q.2 103 k = gI D 103 k) ∧ ∀ x y, x ≠ 103 → ¬ (x = 102 ∧ y = 1) → gI q.2 x y = gI D x y := by
      intro w hw
      unfold fn_X12_feed_76
      have ew : bws a b c d e i = w >>> (nI (24 - 8 * (i % 4)) &&& 31) := by
        unfold bws bwd
        rw [← hw]
      simp (disch := omega) only [Option.bind_some, Option.map_some, zlet_eq, ↓reduceIte, L_2, L_3, L_4, L_5, L_6, L_7, L_8, L_9, L_10, L_12, L_13, L_20, L_24, L_25, L_26, L_27, L_30, L_32, L_33, L_34, L_40, L_48, L_57, L_58, L_60, L_64, L_90, L_93, L_97, L_99, L_100, L_122, L_144, L_255, L_364, L_480, L_500, L_800, L_1000, L_100000, L_4096, L_1023, L_1024, nLe, nLt, nEq, nI_1, nI_add, pk_mul, nSn, nDn, nCl, zck_nI, zdv_nI, nNeg, nLe0, n0Lt, nEq0, nM1, m1N, m1Lt, nLm1, zcb_0, zcb_1, i10, i01, nEq1, n1Eq, nLt1, gI_eq, gI_nb, gI_na, x_badF, x_badT1, x_badT2, bt_0, bt_1, bit1_u, Bool.true_eq_false, Bool.false_eq_true, eq_self, Int32.or_zero, L_11, L_14, L_15, L_16, L_17, L_18, L_19, L_21, L_22, L_23, L_28, L_29, if_pos, if_neg, e1, show i - i / 4 * 4 = i % 4 by omega]
      rw [← ew]
      refine ih _ ⟨gI_eq, fun k hk => ?_, fun k hk => ?_, fun x y h1 h2 => ?_⟩
      · by_cases q : k = i
        · subst q
          simp (disch := omega) only [Option.bind_some, Option.map_some, zlet_eq, ↓reduceIte, L_2, L_3, L_4, L_5, L_6, L_7, L_8, L_9, L_10, L_12, L_13, L_20, L_24, L_25, L_26, L_27, L_30, L_32, L_33, L_34, L_40, L_48, L_57, L_58, L_60, L_64, L_90, L_93, L_97, L_99, L_100, L_122, L_144, L_255, L_364, L_480, L_500, L_800, L_1000, L_100000, L_4096, L_1023, L_1024, nLe, nLt, nEq, nI_1, nI_add, pk_mul, nSn, nDn, nCl, zck_nI, zdv_nI, nNeg, nLe0, n0Lt, nEq0, nM1, m1N, m1Lt, nLm1, zcb_0, zcb_1, i10, i01, nEq1, n1Eq, nLt1, gI_eq, gI_nb, gI_na, x_badF, x_badT1, x_badT2, bt_0, bt_1, bit1_u, Bool.true_eq_false, Bool.false_eq_true, eq_self, Int32.or_zero, L_11, L_14, L_15, L_16, L_17, L_18, L_19, L_21, L_22, L_23, L_28, L_29, if_pos, if_neg]
        · rw [gI_na (by omega), gI_nb (by omega)]
          exact e2 k (by omega)
      · rw [gI_na (by omega), gI_nb (by omega)]
        exact e3 k hk
      · rw [show ∀ (F : zD) (v : Int32), gI (sI F 102 1 v) x y = gI F x y from fun F v => if_neg h2, gI_na h1]
        exact e4 x y h1 h2
    rw [fn_X12_feed_23]
    by_cases k1 : i < 4
    · simp (disch := omega) only [Option.bind_some, Option.map_some, zlet_eq, ↓reduceIte, L_2, L_3, L_4, L_5, L_6, L_7, L_8, L_9, L_10, L_12, L_13, L_20, L_24, L_25, L_26, L_27, L_30, L_32, L_33, L_34, L_40, L_48, L_57, L_58, L_60, L_64, L_90, L_93, L_97, L_99, L_100, L_122, L_144, L_255, L_364, L_480, L_500, L_800, L_1000, L_100000, L_4096, L_1023, L_1024, nLe, nLt, nEq, nI_1, nI_add, pk_mul, nSn, nDn, nCl, zck_nI, zdv_nI, nNeg, nLe0, n0Lt, nEq0, nM1, m1N, m1Lt, nLm1, zcb_0, zcb_1, i10, i01, nEq1, n1Eq, nLt1, gI_eq, gI_nb, gI_na, x_badF, x_badT1, x_badT2, bt_0, bt_1, bit1_u, Bool.true_eq_false, Bool.false_eq_true, eq_self, Int32.or_zero, L_11, L_14, L_15, L_16, L_17, L_18, L_19, L_21, L_22, L_23, L_28, L_29, if_pos, if_neg]
      exact key a (by rw [if_pos k1])
    · by_cases k2 : i < 8
      · simp (disch := omega) only [Option.bind_some, Option.map_some, zlet_eq, ↓reduceIte, L_2, L_3, L_4, L_5, L_6, L_7, L_8, L_9, L_10, L_12, L_13, L_20, L_24, L_25, L_26, L_27, L_30, L_32, L_33, L_34, L_40, L_48, L_57, L_58, L_60, L_64, L_90, L_93, L_97, L_99, L_100, L_122, L_144, L_255, L_364, L_480, L_500, L_800, L_1000, L_100000, L_4096, L_1023, L_1024, nLe, nLt, nEq, nI_1, nI_add, pk_mul, nSn, nDn, nCl, zck_nI, zdv_nI, nNeg, nLe0, n0Lt, nEq0, nM1, m1N, m1Lt, nLm1, zcb_0, zcb_1, i10, i01, nEq1, n1Eq, nLt1, gI_eq, gI_nb, gI_na, x_badF, x_badT1, x_badT2, bt_0, bt_1, bit1_u, Bool.true_eq_false, Bool.false_eq_true, eq_self, Int32.or_zero, L_11, L_14, L_15, L_16, L_17, L_18, L_19, L_21, L_22, L_23, L_28, L_29, if_pos, if_neg]
        exact key b (by rw [if_neg k1, if_pos k2])
      · by_cases k3 : i < 12
        · simp (disch := omega) only [Option.bind_some, Option.map_some, zlet_eq, ↓reduceIte, L_2, L_3, L_4, L_5, L_6, L_7, L_8, L_9, L_10, L_12, L_13, L_20, L_24, L_25, L_26, L_27, L_30, L_32, L_33, L_34, L_40, L_48, L_57, L_58, L_60, L_64, L_90, L_93, L_97, L_99, L_100, L_122, L_144, L_255, L_364, L_480, L_500, L_800, L_1000, L_100000, L_4096, L_1023, L_1024, nLe, nLt, nEq, nI_1, nI_add, pk_mul, nSn, nDn, nCl, zck_nI, zdv_nI, nNeg, nLe0, n0Lt, nEq0, nM1, m1N, m1Lt, nLm1, zcb_0, zcb_1, i10, i01, nEq1, n1Eq, nLt1, gI_eq, gI_nb, gI_na, x_badF, x_badT1, x_badT2, bt_0, bt_1, bit1_u, Bool.true_eq_false, Bool.false_eq_true, eq_self, Int32.or_zero, L_11, L_14, L_15, L_16, L_17, L_18, L_19, L_21, L_22, L_23, L_28, L_29, if_pos, if_neg]
          exact key c (by rw [if_neg k1, if_neg k2, if_pos k3])
        · by_cases k4 : i < 16
          · simp (disch := omega) only [Option.bind_some, Option.map_some, zlet_eq, ↓reduceIte, L_2, L_3, L_4, L_5, L_6, L_7, L_8, L_9, L_10, L_12, L_13, L_20, L_24, L_25, L_26, L_27, L_30, L_32, L_33, L_34, L_40, L_48, L_57, L_58, L_60, L_64, L_90, L_93, L_97, L_99, L_100, L_122, L_144, L_255, L_364, L_480, L_500, L_800, L_1000, L_100000, L_4096, L_1023, L_1024, nLe, nLt, nEq, nI_1, nI_add, pk_mul, nSn, nDn, nCl, zck_nI, zdv_nI, nNeg, nLe0, n0Lt, nEq0, nM1, m1N, m1Lt, nLm1, zcb_0, zcb_1, i10, i01, nEq1, n1Eq, nLt1, gI_eq, gI_nb, gI_na, x_badF, x_badT1, x_badT2, bt_0, bt_1, bit1_u, Bool.true_eq_false, Bool.false_eq_true, eq_self, Int32.or_zero, L_11, L_14, L_15, L_16, L_17, L_18, L_19, L_21, L_22, L_23, L_28, L_29, if_pos, if_neg]
            exact key d (by rw [if_neg k1, if_neg k2, if_neg k3, if_pos k4])
          · simp (disch := omega) only [Option.bind_some, Option.map_some, zlet_eq, ↓reduceIte, L_2, L_3, L_4, L_5, L_6, L_7, L_8, L_9, L_10, L_12, L_13, L_20, L_24, L_25, L_26, L_27, L_30, L_32, L_33, L_34, L_40, L_48, L_57, L_58, L_60, L_64, L_90, L_93, L_97, L_99, L_100, L_122, L_144, L_255, L_364, L_480, L_500, L_800, L_1000, L_100000, L_4096, L_1023, L_1024, nLe, nLt, nEq, nI_1, nI_add, pk_mul, nSn, nDn, nCl, zck_nI, zdv_nI, nNeg, nLe0, n0Lt, nEq0, nM1, m1N, m1Lt, nLm1, zcb_0, zcb_1, i10, i01, nEq1, n1Eq, nLt1, gI_eq, gI_nb, gI_na, x_badF, x_badT1, x_badT2, bt_0, bt_1, bit1_u, Bool.true_eq_false, Bool.false_eq_true, eq_self, Int32.or_zero, L_11, L_14, L_15, L_16, L_17, L_18, L_19, L_21, L_22, L_23, L_28, L_29, if_pos, if_neg]
            exact key e (by rw [if_neg k1, if_neg k2, if_neg k3, if_neg k4])
  · intro n E ⟨e1, e2, e3, e4⟩
    show zok (fn_X12_feed_23 a b c d e (n + 1) (nI 20) E) _
    rw [fn_X12_feed_23]
    simp (disch := omega) only [Option.bind_some, Option.map_some, zlet_eq, ↓reduceIte, L_2, L_3, L_4, L_5, L_6, L_7, L_8, L_9, L_10, L_12, L_13, L_20, L_24, L_25, L_26, L_27, L_30, L_32, L_33, L_34, L_40, L_48, L_57, L_58, L_60, L_64, L_90, L_93, L_97, L_99, L_100, L_122, L_144, L_255, L_364, L_480, L_500, L_800, L_1000, L_100000, L_4096, L_1023, L_1024, nLe, nLt, nEq, nI_1, nI_add, pk_mul, nSn, nDn, nCl, zck_nI, zdv_nI, nNeg, nLe0, n0Lt, nEq0, nM1, m1N, m1Lt, nLm1, zcb_0, zcb_1, i10, i01, nEq1, n1Eq, nLt1, gI_eq, gI_nb, gI_na, x_badF, x_badT1, x_badT2, bt_0, bt_1, bit1_u, Bool.true_eq_false, Bool.false_eq_true, eq_self, Int32.or_zero, L_11, L_14, L_15, L_16, L_17, L_18, L_19, L_21, L_22, L_23, L_28, L_29, if_pos, if_neg, zok_some]
    exact ⟨e1, e1, e2, e3, e4⟩
theorem t_feed (h : iv P D) (a b c d e : Int32) : duo (fn_X11_feed a b c d e) (fn_X12_feed a b c d e) D := by
  have h' := h
  obtain ⟨⟨⟨hb, ⟨a0, a1, a2, a3⟩, ⟨b0, b1, b2, b3⟩, hs, hw⟩, ⟨hc, c1, c2, hcv⟩, ⟨hd, ⟨z0, z1, z2⟩, ⟨y0, y1, y2⟩, hp, ht⟩, ⟨hi, i0, i1, him⟩, ⟨hta, ta0, ta1, hpl, htb⟩⟩, hK, hO⟩ := h
  replace y0 : gI _ 102 34 = nI (P 5) := y0
  replace y1 : gI _ 102 35 = nI (P 6) := y1
  replace y2 : gI _ 102 36 = nI (P 7) := y2
  unfold duo
  by_cases h9 : P 9 ≤ 480
  · refine (c_feed a b c d e ta0 h9).mono fun q ⟨f1, f2, f3, f4, f5⟩ => ?_
    unfold fn_X12_feed
    have g1 : gI q.2 102 1 = nI (P 9) := by rw [f5 _ _ (by omega) (by omega), ta1]
    rw [zlet_eq, gI_nb (by omega), g1, if_pos (by rw [show (20 : Int32) = nI 20 from rfl, nI_add]; exact nI_le (b := 500) (by omega) (by omega))]
    refine (r_feed a b c d e (D := sI q.2 102 0 0) (by rw [gI_nb (by omega), g1]) h9).mono fun r ⟨k1, k2, k3, k4, k5⟩ => ⟨⟨pset P 9 (P 9 + 20), ?_⟩, by rw [k1, f1]⟩
    have hG : ∀ x y, x ≠ 1 → x ≠ 103 → ¬ (x = 0 ∧ y = 17) → ¬ (x = 102 ∧ (y = 0 ∨ y = 1)) → gI r.2 x y = gI D x y := by
      intro x y q1 q2 q3 q4
      rw [k5 x y q2 (by omega), show gI (sI q.2 102 0 0) x y = gI q.2 x y from if_neg (by omega), f5 x y q1 q3]
    have hA : ∀ p : Nat → Nat → Prop, (∀ a b, p a b → a ≠ 1 ∧ a ≠ 103 ∧ ¬ (a = 0 ∧ b = 17) ∧ ¬ (a = 102 ∧ (b = 0 ∨ b = 1))) → ag p D r.2 := by
      intro p hp' a b q
      have := hp' a b q
      exact hG a b this.1 this.2.1 this.2.2.1 this.2.2.2
    obtain ⟨⟨hal, hco, hsc, him2, hta2⟩, hK2, hO2⟩ := h'
    refine ⟨⟨?_, ?_, ?_, ?_, ?_⟩, ?_, ?_⟩
    · exact iv_al.q rfl rfl rfl rfl ((hA pA (by unfold pA; intros; omega)).al hal)
    · exact iv_co.q rfl rfl rfl ((hA pB (by unfold pB; intros; omega)).co hco)
    · exact iv_sc.q rfl rfl rfl rfl ((hA pS (by unfold pS; intros; omega)).sc hsc)
    · exact iv_im.q rfl rfl ((hA pI (by unfold pI; intros; omega)).im him2)
    · refine ⟨by show P 9 + 20 ≤ 500; omega, ?_, k2, ?_, fun k hk => ?_⟩
      · rw [k5 _ _ (by omega) (by omega), gI_na (by omega), f2]
        rfl
      · rw [hG _ _ (by omega) (by omega) (by omega) (by omega), hG _ _ (by omega) (by omega) (by omega) (by omega), hpl]
      · replace hk : k < P 9 + 20 := hk
        by_cases q : k < P 9
        · rw [k4 k q, k5 _ _ (by omega) (by omega), gI_na (by omega), gI_na (by omega), f4 k q, f5 _ _ (by omega) (by omega)]
          exact htb k q
        · obtain ⟨i, rfl⟩ : ∃ i, k = P 9 + i := ⟨k - P 9, by omega⟩
          rw [k3 i (by omega), k5 _ _ (by omega) (by omega), gI_na (by omega), f3 i (by omega)]
          exact ⟨fb_byte_twice _, bp_b _⟩
    · exact iv_K.q rfl rfl rfl rfl rfl ((hA pK (by unfold pK; intros; omega)).K (hA pA (by unfold pA; intros; omega)) (hA pB (by unfold pB; intros; omega)) hK2)
    · refine iv_O.q rfl rfl ((hA pO (by unfold pO; intros; omega)).O (hA pS (by unfold pS; intros; omega)) hd.2.2 hO2)
  · unfold fn_X11_feed fn_X12_feed
    simp (disch := omega) only [Option.bind_some, Option.map_some, zlet_eq, ↓reduceIte, L_2, L_3, L_4, L_5, L_6, L_7, L_8, L_9, L_10, L_12, L_13, L_20, L_24, L_25, L_26, L_27, L_30, L_32, L_33, L_34, L_40, L_48, L_57, L_58, L_60, L_64, L_90, L_93, L_97, L_99, L_100, L_122, L_144, L_255, L_364, L_480, L_500, L_800, L_1000, L_100000, L_4096, L_1023, L_1024, nLe, nLt, nEq, nI_1, nI_add, pk_mul, nSn, nDn, nCl, zck_nI, zdv_nI, nNeg, nLe0, n0Lt, nEq0, nM1, m1N, m1Lt, nLm1, zcb_0, zcb_1, i10, i01, nEq1, n1Eq, nLt1, gI_eq, gI_nb, gI_na, x_badF, x_badT1, x_badT2, bt_0, bt_1, bit1_u, Bool.true_eq_false, Bool.false_eq_true, eq_self, Int32.or_zero, L_11, L_14, L_15, L_16, L_17, L_18, L_19, L_21, L_22, L_23, L_28, L_29, if_pos, if_neg, ta0, ta1, zok_some]
    exact ⟨⟨P, h'.thr 0⟩, trivial⟩
end M61
