/-! THE MATHEMATICS: long rows of bits; row by row, the class -/
def lb (x : Int64) (i : Nat) : Bool := x.toBitVec.getLsbD i
theorem l_ext {x y : Int64} (h : ∀ i, i < 64 → lb x i = lb y i) : x = y := Int64.toBitVec_inj.mp (BitVec.eq_of_getLsbD_eq (fun i hi => h i hi))
theorem l_or (x y : Int64) (i : Nat) : lb (x ||| y) i = (lb x i || lb y i) := by unfold lb; rw [Int64.toBitVec_or, BitVec.getLsbD_or]
theorem l_and (x y : Int64) (i : Nat) : lb (x &&& y) i = (lb x i && lb y i) := by unfold lb; rw [Int64.toBitVec_and, BitVec.getLsbD_and]
theorem l_xor (x y : Int64) (i : Nat) : lb (x ^^^ y) i = (lb x i ^^ lb y i) := by unfold lb; rw [Int64.toBitVec_xor, BitVec.getLsbD_xor]
theorem l_m1 : ∀ i, i < 64 → lb (-1) i = true := by decide +kernel
theorem l_0 (i : Nat) : lb 0 i = false := BitVec.getLsbD_zero
theorem l_big {x : Int64} {i : Nat} (h : 64 ≤ i) : lb x i = false := BitVec.getLsbD_of_ge _ _ h
theorem l_bit : ∀ i, i < 64 → ∀ j, j < 64 → lb (zlshl 1 (nI i)) j = decide (j = i) := by decide +kernel
theorem l_not (x : Int64) {i : Nat} (hi : i < 64) : lb (x ^^^ -1) i = !lb x i := by
  rw [l_xor, l_m1 i hi]
  cases lb x i <;> rfl
theorem lg_iff {x y : Int64} : lg_cmp x y = 0 ↔ x = y := by
  constructor
  · intro h
    unfold lg_cmp at h
    by_cases g : x > y
    · rw [if_pos g] at h; cases h
    · rw [if_neg g] at h
      by_cases e : x = y
      · exact e
      · rw [if_neg e] at h; cases h
  · rintro rfl
    exact lg_same _
theorem l_tst (x : Int64) {i : Nat} (hi : i < 64) : lg_cmp ((zlushr x (nI i)) &&& 1) 0 = 0 ↔ lb x i = false := by
  rw [lg_iff]
  unfold zlushr
  exact ts_bit hi (by rw [wb_cu i hi]; exact u_tn (Nat.lt_of_lt_of_le hi (by decide)))
theorem n_shr6 {u : Nat} (hu : u < 2147483648) : nI u >>> ((6 : Int32) &&& 31) = nI (u / 64) := by
  apply b_ext
  intro i hi
  rw [show (6 : Int32) = nI 6 from rfl, b_sshr 6 (by omega) _ hi, bt_nI (by omega), bt_nI (by omega), bt_nI (by omega)]
  have e : (u / 64).testBit i = u.testBit (6 + i) := by rw [show (64 : Nat) = 2 ^ 6 from rfl, Nat.testBit_div_two_pow, Nat.add_comm]
  rw [e]
  split
  · rfl
  · rw [Nat.testBit_lt_two_pow (Nat.lt_of_lt_of_le (show u < 2 ^ 31 by omega) (Nat.pow_le_pow_right (by decide) (show 31 ≤ 31 by omega))), Nat.testBit_lt_two_pow (Nat.lt_of_lt_of_le (show u < 2 ^ 31 by omega) (Nat.pow_le_pow_right (by decide) (show 31 ≤ 6 + i by omega)))]
theorem n_and63 (u : Nat) : nI u &&& (63 : Int32) = nI (u % 64) := fa_mask u 6
def lr (D : zD) (a u : Nat) : Bool := lb (gL D a (u / 64)) (u % 64)
section M77
variable {D : zD} {P : Nat → Nat} {nc c ns d a e : Nat} {cv : Nat → Int32}
theorem lr_cong {E : zD} (h : ∀ b, gL E a b = gL D a b) (u : Nat) : lr E a u = lr D a u := by unfold lr; rw [h]
theorem c_has {u : Nat} (hu : u < 4096) : fn_X2_has a 64 (nI u) D = some (bI (lr D a u)) := by
  unfold fn_X2_has
  have h1 : u / 64 < 64 := by omega
  rw [zlet_eq, n_shr6 (by omega), if_neg (nI_pos (by omega)), if_neg (show ¬ Int32.ofNat 64 ≤ nI (u / 64) from nI_ge (b := 64) h1 (by omega)), zck_nI h1 (by omega), nI_clamp (by omega), n_and63]
  have h := l_tst (gL D a (u / 64)) (i := u % 64) (by omega)
  unfold lr bI
  cases q : lb (gL D a (u / 64)) (u % 64)
  · rw [if_pos (h.mpr q)]; rfl
  · rw [if_neg (fun r => by rw [h.mp r] at q; cases q)]; rfl
theorem c_putL {u : Nat} (hu : u < 4096) : zok (fn_X2_put a 64 (nI u) D) fun E => E.2 = D.2 ∧ (∀ x, lr E a x = (decide (x = u) || lr D a x)) ∧ (∀ k b, k ≠ a → gL E k b = gL D k b) := by
  unfold fn_X2_put
  have h1 : u / 64 < 64 := by omega
  rw [zlet_eq, n_shr6 (by omega), if_neg (nI_pos (by omega)), if_neg (show ¬ Int32.ofNat 64 ≤ nI (u / 64) from nI_ge (b := 64) h1 (by omega)), zck_nI h1 (by omega), zck_nI h1 (by omega), nI_clamp (by omega), n_and63, zlet_eq, zok_some]
  refine ⟨rfl, fun x => ?_, fun k b hk => gL_na hk⟩
  unfold lr
  rw [gL_if]
  by_cases q : x / 64 = u / 64
  · rw [if_pos q, l_or, l_bit _ (by omega) _ (by omega), q, Bool.or_comm]
    congr 1
    rw [decide_eq_decide]
    omega
  · rw [if_neg q, decide_eq_false (by intro r; exact q (by rw [r])), Bool.false_or]
theorem c_fillL : zok (fn_JA_fill a 64 0 D) fun E => E.2 = D.2 ∧ (∀ x, x < 4096 → lr E a x = false) ∧ (∀ k b, k ≠ a → gL E k b = gL D k b) := by
  unfold fn_JA_fill
  rw [zlet_eq, show Int32.ofNat 64 = nI 64 from rfl]
  refine z_inv 64 (fun n i (E : zD) => fn_JA_fill_6 a 64 0 n (nI i) (nI 64) E) (fun i E => E.2 = D.2 ∧ (∀ b, b < i → gL E a b = 0) ∧ (∀ k b, k ≠ a → gL E k b = gL D k b)) _ ?_ ?_ 0 zFU D (Nat.zero_le _) (zfu_gt (by omega)) ⟨rfl, fun b hb => by omega, fun _ _ _ => rfl⟩
  · intro n i E hi ⟨h1, h2, h3⟩ ih
    show zok (fn_JA_fill_6 a 64 0 (n + 1) (nI i) (nI 64) E) _
    rw [fn_JA_fill_6, if_neg (nI_ge hi (by omega)), zck_nI hi (by omega), nI_clamp (by omega), zlet_eq, nI_1]
    refine ih _ ⟨h1, fun b hb => ?_, fun k b hk => by rw [gL_na hk, h3 k b hk]⟩
    rw [gL_if]
    by_cases q : b = i
    · rw [if_pos q]
    · rw [if_neg q]; exact h2 b (by omega)
  · intro n E ⟨h1, h2, h3⟩
    show zok (fn_JA_fill_6 a 64 0 (n + 1) (nI 64) (nI 64) E) _
    rw [fn_JA_fill_6, if_pos (nI_le (Nat.le_refl _) (by omega)), zok_some]
    exact ⟨h1, fun x hx => by unfold lr; rw [h2 _ (by omega), l_0], h3⟩
theorem pc_sub {x y : Int32} (h : ∀ i, i < 32 → bt x i = true → bt y i = true) : pc x ≤ pc y := fb_ct_sub h
theorem cfx_sub {x m : Int32} (h : cfx nc cv e x = true) : cfx nc cv e (x &&& m) = true := by
  rw [cfx_iff] at *
  obtain ⟨k, hk, h1⟩ := h
  refine ⟨k, hk, Nat.le_trans (pc_sub fun i _ h2 => ?_) h1⟩
  rw [b_and, b_and] at h2
  rw [b_and]
  revert h2
  cases bt x i <;> cases bt m i <;> cases bt (cv k ^^^ -1) i <;> decide
theorem c_below {v : Nat} (hc : c ≤ 12) (hv : v < 2 ^ c) (h : ∀ x, x < v → lr D 93 x = (decide (1 ≤ x) && cfx nc cv e (nI x))) : zok (fn_X2_allBelowAreMixed (nI v) (nI c) D) fun r => r = 0 → cfx nc cv e (nI v) = false := by
  have hp : 2 ^ c ≤ 2 ^ 12 := Nat.pow_le_pow_right (by decide) hc
  refine z_inv c (fun n i (_ : Unit) => fn_X2_allBelowAreMixed_2 (nI v) (nI c) D n (nI i)) (fun _ _ => True) _ ?_ ?_ 0 zFU () (Nat.zero_le _) (zfu_gt (by omega)) trivial
  · intro n i _ hi _ ih
    show zok (fn_X2_allBelowAreMixed_2 (nI v) (nI c) D (n + 1) (nI i)) _
    rw [fn_X2_allBelowAreMixed_2, if_neg (nI_ge hi (by omega)), zlet_eq, nI_1, bit1_u]
    by_cases q : nI v &&& (bit1 i ^^^ -1) = nI v
    · rw [if_pos q]; exact ih () trivial
    · rw [if_neg q]
      by_cases q2 : nI v &&& (bit1 i ^^^ -1) = 0
      · rw [if_pos q2]; exact ih () trivial
      · rw [if_neg q2]
        have hu : un (nI v &&& (bit1 i ^^^ -1)) < v := by
          have e1 : nI v &&& (bit1 i ^^^ -1) = nI (v &&& un (bit1 i ^^^ -1)) := by
            rw [← fa_and, nI_un]
          have e2 : v &&& un (bit1 i ^^^ -1) ≤ v := Nat.and_le_left
          rw [e1, un_nI (by omega)]
          rcases Nat.lt_or_eq_of_le e2 with g | g
          · exact g
          · exact absurd (by rw [e1, g]) q
        generalize hX : nI v &&& (bit1 i ^^^ -1) = X at *
        have hX2 : X = nI (un X) := (nI_un X).symm
        have h3 := h (un X) hu
        rw [nI_un] at h3
        rw [hX2, c_has (by omega), Option.bind_some]
        have h1 : 1 ≤ un X := by
          rcases Nat.eq_zero_or_pos (un X) with g | g
          · rw [g] at hX2; exact absurd hX2 q2
          · exact g
        rw [decide_eq_true h1, Bool.true_and] at h3
        rw [h3]
        cases g : cfx nc cv e X
        · rw [if_pos (show bI false = 0 from rfl), zok_some]
          intro _
          cases g2 : cfx nc cv e (nI v)
          · rfl
          · have := cfx_sub (m := bit1 i ^^^ -1) g2
            rw [hX, g] at this
            cases this
        · rw [if_neg (show ¬ bI true = 0 by decide)]; exact ih () trivial
  · intro n _ _
    show zok (fn_X2_allBelowAreMixed_2 (nI v) (nI c) D (n + 1) (nI c)) _
    rw [fn_X2_allBelowAreMixed_2, if_pos (nI_le (Nat.le_refl _) (by omega)), zok_some]
    intro r
    cases r
theorem c_gather0 (h : gI D a 1 = nI nc) (hn : nc ≤ 500) (he : e < 100) (hc : c ≤ 12) : zok (fn_X2_gather a (nI c) (nI e) D) fun E => E.2 = D.2 ∧ ∀ x, x < 4096 → lr E 93 x = (decide (1 ≤ x ∧ x < 2 ^ c) && cfx nc (gI D (a + 1)) e (nI x)) := by
  have hp : 2 ^ c ≤ 2 ^ 12 := Nat.pow_le_pow_right (by decide) hc
  unfold fn_X2_gather
  refine (c_fillL (a := 93) (D := D)).bind fun D1 ⟨e1, e2, e3⟩ => ?_
  refine z_inv (2 ^ c) (fun n v (E : zD) => fn_X2_gather_11 a (nI c) (nI e) n (nI v) E) (fun v E => 1 ≤ v ∧ E.2 = D.2 ∧ ∀ x, x < 4096 → lr E 93 x = (decide (1 ≤ x ∧ x < v) && cfx nc (gI D (a + 1)) e (nI x))) _ ?_ ?_ 1 zFU D1 (Nat.one_le_two_pow) (zfu_gt (by omega)) ⟨Nat.le_refl _, e1, fun x hx => by rw [e2 x hx, decide_eq_false (by omega), Bool.false_and]⟩
  · intro n v E hv ⟨h0, h1, h2⟩ ih
    show zok (fn_X2_gather_11 a (nI c) (nI e) (n + 1) (nI v) E) _
    rw [fn_X2_gather_11, bit1_u, bit1_eq c (by omega), if_neg (nI_ge hv (by omega)), nI_1]
    have nxt : ∀ F, F.2 = E.2 → (∀ x, x < 4096 → lr F 93 x = if x = v then cfx nc (gI D (a + 1)) e (nI v) else lr E 93 x) → zok (fn_X2_gather_11 a (nI c) (nI e) n (nI (v + 1)) F) fun E => E.2 = D.2 ∧ ∀ x, x < 4096 → lr E 93 x = (decide (1 ≤ x ∧ x < 2 ^ c) && cfx nc (gI D (a + 1)) e (nI x)) := fun F f1 f2 => ih F ⟨by omega, by rw [f1, h1], fun x hx => by
      rw [f2 x hx]
      by_cases q : x = v
      · rw [if_pos q, q, decide_eq_true (by omega), Bool.true_and]
      · rw [if_neg q, h2 x hx]
        congr 1
        rw [decide_eq_decide]
        omega⟩
    have no : cfx nc (gI D (a + 1)) e (nI v) = false → zok (fn_X2_gather_11 a (nI c) (nI e) n (nI (v + 1)) E) fun E => E.2 = D.2 ∧ ∀ x, x < 4096 → lr E 93 x = (decide (1 ≤ x ∧ x < 2 ^ c) && cfx nc (gI D (a + 1)) e (nI x)) := fun q => nxt E rfl fun x hx => by
      by_cases g : x = v
      · rw [if_pos g, g, h2 v (by omega), q, Bool.and_false]
      · rw [if_neg g]
    refine (c_below (nc := nc) (cv := gI D (a + 1)) (e := e) hc hv fun x hx => ?_).bind fun r hr => ?_
    · rw [h2 x (by omega)]
      congr 1
      rw [decide_eq_decide]
      omega
    · by_cases q : r = 0
      · rw [if_pos q]; exact no (hr q)
      · rw [if_neg q, show fn_X3_firstMixing a (nI v) (nI e) E = some (sFi nc (gI D (a + 1)) e (nI v)) from by rw [c_first (by show E.2 a 1 = _; rw [h1]; exact h) hn _ he]; show some (sFi nc (E.2 (a + 1)) e (nI v)) = _; rw [h1]; rfl, Option.bind_some]
        have hcf := sFi_cfx (nc := nc) (cv := gI D (a + 1)) (e := e) (x := nI v) hn
        by_cases q2 : sFi nc (gI D (a + 1)) e (nI v) = -1
        · rw [if_pos q2]; exact no (hcf.1.mp q2)
        · rw [if_neg q2]
          refine (c_putL (by omega)).bind fun F ⟨f1, f2, f3⟩ => ?_
          refine nxt F f1 fun x hx => ?_
          rw [f2 x, hcf.2.mp q2]
          by_cases g : x = v
          · rw [if_pos g, decide_eq_true g, Bool.true_or]
          · rw [if_neg g, decide_eq_false g, Bool.false_or]
  · intro n E ⟨h0, h1, h2⟩
    show zok (fn_X2_gather_11 a (nI c) (nI e) (n + 1) (nI (2 ^ c)) E) _
    rw [fn_X2_gather_11, bit1_u, bit1_eq c (by omega), if_pos (nI_le (Nat.le_refl _) (by omega)), zok_some]
    exact ⟨h1, h2⟩
theorem c_gather (h : gI D a 1 = nI nc) (hn : nc ≤ 500) (he : e < 100) (hc : c ≤ 12) : zok (fn_X2_gather a (nI c) (nI e) D) fun E => E.2 = D.2 ∧ ∀ x, x < 2 ^ c → lr E 93 x = (decide (1 ≤ x) && cfx nc (gI D (a + 1)) e (nI x)) ∧ True := by
  have hp : 2 ^ c ≤ 2 ^ 12 := Nat.pow_le_pow_right (by decide) hc
  exact (c_gather0 h hn he hc).mono fun E ⟨h1, h2⟩ => ⟨h1, fun x hx => ⟨by rw [h2 x (by omega)]; congr 1; rw [decide_eq_decide]; omega, trivial⟩⟩
theorem x_sw (x v b : Nat) : x = v ^^^ b ↔ x ^^^ v = b := by
  constructor
  · rintro rfl
    rw [Nat.xor_comm v b, Nat.xor_assoc, Nat.xor_self, Nat.xor_zero]
  · rintro rfl
    rw [Nat.xor_comm x v, ← Nat.xor_assoc, Nat.xor_self, Nat.zero_xor]
theorem c_block {v : Nat} (hv : v < 4096) : zok (fn_X2_blockFrom (nI v) D) fun E => E.2 = D.2 ∧ (∀ x, x < 4096 → lr E 94 x = (lr D 94 x || lr D 93 (x ^^^ v))) ∧ (∀ b, gL E 93 b = gL D 93 b) := by
  unfold fn_X2_blockFrom
  refine z_inv 64 (fun n j (E : zD) => fn_X2_blockFrom_2 (nI v) n (nI j) E) (fun j E => E.2 = D.2 ∧ (∀ x, x < 4096 → lr E 94 x = (lr D 94 x || (decide (x ^^^ v < 64 * j) && lr D 93 (x ^^^ v)))) ∧ (∀ b, gL E 93 b = gL D 93 b)) _ ?_ ?_ 0 zFU D (Nat.zero_le _) (zfu_gt (by omega)) ⟨rfl, fun x hx => by rw [decide_eq_false (by omega), Bool.false_and, Bool.or_false], fun _ => rfl⟩
  · intro n j E hj ⟨h1, h2, h3⟩ ih
    show zok (fn_X2_blockFrom_2 (nI v) (n + 1) (nI j) E) _
    rw [fn_X2_blockFrom_2, show (64 : Int32) = nI 64 from rfl, if_neg (nI_ge hj (by omega))]
    refine z_inv 64 (fun m k (E : zD) => fn_X2_blockFrom_10 (nI v) (fn_X2_blockFrom_2 (nI v) n) m (nI j) (nI k) E) (fun k E => E.2 = D.2 ∧ (∀ x, x < 4096 → lr E 94 x = (lr D 94 x || (decide (x ^^^ v < 64 * j + k) && lr D 93 (x ^^^ v)))) ∧ (∀ b, gL E 93 b = gL D 93 b)) _ ?_ ?_ 0 zFU E (Nat.zero_le _) (zfu_gt (by omega)) ⟨h1, h2, h3⟩
    · intro m k F hk ⟨k1, k2, k3⟩ ih2
      show zok (fn_X2_blockFrom_10 (nI v) (fn_X2_blockFrom_2 (nI v) n) (m + 1) (nI j) (nI k) F) _
      have e3 : lb (gL D 93 j) k = lr D 93 (64 * j + k) := by unfold lr; rw [show (64 * j + k) / 64 = j by omega, show (64 * j + k) % 64 = k by omega]
      rw [fn_X2_blockFrom_10, show (64 : Int32) = nI 64 from rfl, if_neg (nI_ge hk (by omega)), zck_nI hj (by omega), zck_nI hj (by omega), nI_clamp (by omega), k3, pk_mul, nI_add, nI_1, nI_1]
      by_cases q : lg_cmp (gL D 93 j) 0 = 0
      · rw [if_pos q]
        rw [lg_iff] at q
        refine ih F ⟨k1, fun x hx => ?_, k3⟩
        have hxv : x ^^^ v < 2 ^ 12 := Nat.xor_lt_two_pow (by omega) (by omega)
        rw [k2 x hx]
        by_cases g : 64 * j ≤ x ^^^ v ∧ x ^^^ v < 64 * (j + 1)
        · have : lr D 93 (x ^^^ v) = false := by unfold lr; rw [show (x ^^^ v) / 64 = j by omega, q, l_0]
          rw [this, Bool.and_false, Bool.and_false]
        · congr 2
          rw [decide_eq_decide]
          omega
      · rw [if_neg q]
        have ht := l_tst (gL D 93 j) hk
        by_cases q2 : lg_cmp ((zlushr (gL D 93 j) (nI k)) &&& 1) 0 = 0
        · rw [if_pos q2]
          rw [ht, e3] at q2
          refine ih2 F ⟨k1, fun x hx => ?_, k3⟩
          rw [k2 x hx]
          by_cases g : x ^^^ v = 64 * j + k
          · rw [g, q2, Bool.and_false, Bool.and_false]
          · congr 2
            rw [decide_eq_decide]
            omega
        · rw [if_neg q2, nx_xor]
          have q3 : lr D 93 (64 * j + k) = true := by
            cases g : lr D 93 (64 * j + k)
            · exact absurd (ht.mpr (by rw [e3, g])) q2
            · rfl
          have hxv : v ^^^ (64 * j + k) < 2 ^ 12 := Nat.xor_lt_two_pow (by omega) (by omega)
          refine (c_putL (by omega)).bind fun G ⟨g1, g2, g3⟩ => ih2 G ⟨by rw [g1, k1], fun x hx => ?_, fun b => by rw [g3 93 b (by omega), k3]⟩
          rw [g2 x, k2 x hx]
          by_cases g : x ^^^ v = 64 * j + k
          · rw [decide_eq_true ((x_sw _ _ _).mpr g), g, q3, Bool.true_or, decide_eq_true (show 64 * j + k < 64 * j + (k + 1) by omega), Bool.true_and, Bool.or_true]
          · rw [decide_eq_false (fun r => g ((x_sw _ _ _).mp r)), Bool.false_or]
            congr 2
            rw [decide_eq_decide]
            omega
    · intro m F ⟨k1, k2, k3⟩
      show zok (fn_X2_blockFrom_10 (nI v) (fn_X2_blockFrom_2 (nI v) n) (m + 1) (nI j) (nI 64) F) _
      rw [fn_X2_blockFrom_10, show (64 : Int32) = nI 64 from rfl, if_pos (nI_le (Nat.le_refl _) (by omega)), nI_1]
      exact ih F ⟨k1, fun x hx => by rw [k2 x hx, show 64 * (j + 1) = 64 * j + 64 by omega], k3⟩
  · intro n E ⟨h1, h2, h3⟩
    show zok (fn_X2_blockFrom_2 (nI v) (n + 1) (nI 64) E) _
    rw [fn_X2_blockFrom_2, show (64 : Int32) = nI 64 from rfl, if_pos (nI_le (Nat.le_refl _) (by omega)), zok_some]
    refine ⟨h1, fun x hx => ?_, h3⟩
    have hxv : x ^^^ v < 2 ^ 12 := Nat.xor_lt_two_pow (by omega) (by omega)
    rw [h2 x hx, decide_eq_true (by omega), Bool.true_and]
def tkf (nc : Nat) (cv : Nat → Int32) (e : Nat) : Nat → Nat × (Nat → Bool) → Nat × (Nat → Bool) := fun v s => if fb_ct (fun t => s.2 t && cfx nc cv e (nI v ^^^ nI t)) v = 0 then (s.1 + 1, fun t => s.2 t || decide (t = v)) else s
def tkS (nc : Nat) (cv : Nat → Int32) (e v : Nat) : Nat × (Nat → Bool) := zfo (tkf nc cv e) v 0 (0, fun _ => false)
theorem tkS_next (v : Nat) : tkS nc cv e (v + 1) = tkf nc cv e v (tkS nc cv e v) := by unfold tkS; rw [zfo_last, Nat.zero_add]
theorem tkS_end : (sTk c nc cv e) = tkS nc cv e (2 ^ c) := rfl
theorem tkS_lt : ∀ v t, (tkS nc cv e v).2 t = true → t < v
  | 0, t => fun h => by cases h
  | v + 1, t => fun h => by
    rw [tkS_next] at h
    unfold tkf at h
    by_cases q : fb_ct (fun t => (tkS nc cv e v).2 t && cfx nc cv e (nI v ^^^ nI t)) v = 0
    · rw [if_pos q] at h
      replace h : ((tkS nc cv e v).2 t || decide (t = v)) = true := h
      rw [Bool.or_eq_true, decide_eq_true_eq] at h
      rcases h with h | h
      · have := tkS_lt v t h; omega
      · omega
    · rw [if_neg q] at h
      have := tkS_lt v t h; omega
theorem c_rowByRow (h : gI D a 1 = nI nc) (hn : nc ≤ 500) {d : Nat} (hd : d < 50) (c30 : c ≤ 30) : zok (fn_X2_rowByRow a (nI c) (nI d) D) fun q => q.1 = sTaken c nc (gI D (a + 1)) (2 * d) ∧ q.2.2 = D.2 := by
  unfold fn_X2_rowByRow sTaken
  by_cases hc : c ≤ 12
  · have hp : 2 ^ c ≤ 2 ^ 12 := Nat.pow_le_pow_right (by decide) hc
    rw [show (12 : Int32) = nI 12 from rfl, if_pos (nI_le hc (by omega)), if_neg (by omega), show (2 : Int32) * nI d = nI (2 * d) from pk_mul 2 _]
    refine (c_gather h hn (by omega) hc).bind fun D2 ⟨e1, e2⟩ => ?_
    refine (c_fillL (a := 94) (D := D2)).bind fun D3 ⟨f1, f2, f3⟩ => ?_
    generalize gI D (a + 1) = cv at *
    rw [tkS_end]
    refine z_inv (2 ^ c) (fun n v (s : Int32 × zD) => fn_X2_rowByRow_31 a (nI c) (nI d) n s.1 (nI v) s.2) (fun v s => s.1 = nI (tkS nc cv (2 * d) v).1 ∧ s.2.2 = D.2 ∧ (∀ x, x < 2 ^ c → lr s.2 93 x = (decide (1 ≤ x) && cfx nc cv (2 * d) (nI x))) ∧ ∀ x, x < 2 ^ c → v ≤ x → (lr s.2 94 x = true ↔ ∃ t, t < v ∧ (tkS nc cv (2 * d) v).2 t = true ∧ cfx nc cv (2 * d) (nI (x ^^^ t)) = true)) _ ?_ ?_ 0 zFU ((0 : Int32), D3) (Nat.zero_le _) (zfu_gt (by omega)) ⟨rfl, f1.trans e1, fun x hx => by rw [lr_cong (fun b => f3 93 b (by omega)), (e2 x hx).1], fun x hx _ => by rw [f2 x (by omega)]; exact ⟨fun r => (by cases r), fun ⟨t, r, _⟩ => (by omega)⟩⟩
    · intro n v s hv ⟨g1, g2, g3, g4⟩ ih
      show zok (fn_X2_rowByRow_31 a (nI c) (nI d) (n + 1) s.1 (nI v) s.2) _
      rw [fn_X2_rowByRow_31, bit1_u, bit1_eq c (by omega), if_neg (nI_ge hv (by omega)), c_has (by omega), Option.bind_some, nI_1]
      have hst : fb_ct (fun t => (tkS nc cv (2 * d) v).2 t && cfx nc cv (2 * d) (nI v ^^^ nI t)) v = 0 ↔ lr s.2 94 v = false := by
        rw [fb_ct_zero]
        constructor
        · intro hz
          cases q : lr s.2 94 v
          · rfl
          · obtain ⟨t, t1, t2, t3⟩ := (g4 v hv (Nat.le_refl _)).mp q
            have := hz t t1
            rw [nx_xor, t2, t3] at this
            cases this
        · intro hz t ht
          cases q : (tkS nc cv (2 * d) v).2 t && cfx nc cv (2 * d) (nI v ^^^ nI t)
          · rfl
          · rw [Bool.and_eq_true, nx_xor] at q
            rw [(g4 v hv (Nat.le_refl _)).mpr ⟨t, ht, q.1, q.2⟩] at hz
            cases hz
      cases q : lr s.2 94 v
      · rw [if_pos (show bI false = 0 from rfl)]
        have e5 : tkS nc cv (2 * d) (v + 1) = ((tkS nc cv (2 * d) v).1 + 1, fun t => (tkS nc cv (2 * d) v).2 t || decide (t = v)) := by rw [tkS_next]; unfold tkf; rw [if_pos (hst.mpr q)]
        refine (c_block (by omega)).bind fun F ⟨k1, k2, k3⟩ => ?_
        rw [g1, nI_1]
        refine ih (nI ((tkS nc cv (2 * d) v).1 + 1), F) ⟨by rw [e5], k1.trans g2, fun x hx => by rw [lr_cong (D := s.2) (fun b => k3 b), g3 x hx], fun x hx hvx => ?_⟩
        have hxv : x ^^^ v < 2 ^ c := Nat.xor_lt_two_pow hx hv
        have hx0 : x ^^^ v ≠ 0 := by
          intro r
          have := (x_sw x v 0).mpr r
          rw [Nat.xor_zero] at this
          omega
        rw [k2 x (by omega), e5, Bool.or_eq_true, g4 x hx (by omega), g3 _ hxv, decide_eq_true (by omega), Bool.true_and]
        constructor
        · rintro (⟨t, t1, t2, t3⟩ | r)
          · exact ⟨t, by omega, by show ((tkS nc cv (2 * d) v).2 t || decide (t = v)) = true; rw [t2, Bool.true_or], t3⟩
          · exact ⟨v, by omega, by show ((tkS nc cv (2 * d) v).2 v || decide (v = v)) = true; rw [decide_eq_true rfl, Bool.or_true], r⟩
        · rintro ⟨t, t1, t2, t3⟩
          replace t2 : ((tkS nc cv (2 * d) v).2 t || decide (t = v)) = true := t2
          rw [Bool.or_eq_true, decide_eq_true_eq] at t2
          rcases t2 with t2 | rfl
          · exact Or.inl ⟨t, tkS_lt _ _ t2, t2, t3⟩
          · exact Or.inr t3
      · rw [if_neg (show ¬ bI true = 0 by decide)]
        have e5 : tkS nc cv (2 * d) (v + 1) = tkS nc cv (2 * d) v := by rw [tkS_next]; unfold tkf; rw [if_neg (fun r => by rw [hst.mp r] at q; cases q)]
        refine ih s ⟨by rw [e5]; exact g1, g2, g3, fun x hx hvx => ?_⟩
        rw [g4 x hx (by omega), e5]
        constructor
        · rintro ⟨t, t1, t2, t3⟩; exact ⟨t, by omega, t2, t3⟩
        · rintro ⟨t, t1, t2, t3⟩; exact ⟨t, tkS_lt _ _ t2, t2, t3⟩
    · intro n s ⟨g1, g2, g3, g4⟩
      show zok (fn_X2_rowByRow_31 a (nI c) (nI d) (n + 1) s.1 (nI (2 ^ c)) s.2) _
      rw [fn_X2_rowByRow_31, bit1_u, bit1_eq c (by omega), if_pos (nI_le (Nat.le_refl _) (by omega)), zok_some]
      exact ⟨g1, g2⟩
  · rw [show (12 : Int32) = nI 12 from rfl, if_neg (nI_ge (by omega) (by omega)), if_pos (by omega), zok_some]
    exact ⟨rfl, rfl⟩
end M77
