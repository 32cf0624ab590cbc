/-! THE MATHEMATICS: how many bits; the lowest bit -/
def un (x : Int32) : Nat := x.toBitVec.toNat
theorem un_lt (x : Int32) : un x < 4294967296 := x.toBitVec.isLt
theorem un_nI {n : Nat} (h : n < 4294967296) : un (nI n) = n := pk_tn h
theorem nI_un (x : Int32) : nI (un x) = x := by
  obtain ⟨n, hn, rfl⟩ := wb_of32 x
  rw [un_nI hn]
theorem bt_un (x : Int32) (i : Nat) : bt x i = (un x).testBit i := rfl
theorem bt_nI {n : Nat} (h : n < 4294967296) (i : Nat) : bt (nI n) i = n.testBit i := by rw [bt_un, un_nI h]
def pc (x : Int32) : Nat := fb_ct (bt x) 32
theorem pc_le (x : Int32) : pc x ≤ 32 := fb_ct_le _ _
theorem p_ad {k r R : Nat} (q Q : Nat) (hr : r < 2 ^ k) (hR : R < 2 ^ k) : (2 ^ k * q + r) &&& (2 ^ k * Q + R) = 2 ^ k * (q &&& Q) + (r &&& R) := by
  have h3 : r &&& R < 2 ^ k := Nat.lt_of_le_of_lt Nat.and_le_left hr
  apply Nat.eq_of_testBit_eq
  intro i
  rw [Nat.testBit_and, Nat.testBit_two_pow_mul_add _ hr, Nat.testBit_two_pow_mul_add _ hR, Nat.testBit_two_pow_mul_add _ h3]
  by_cases h : i < k
  · simp [h, Nat.testBit_and]
  · simp [h, Nat.testBit_and]
theorem p_and4 {a b c d A B C E : Nat} (ha : a < 256) (hb : b < 256) (hc : c < 256) (hA : A < 256) (hB : B < 256) (hC : C < 256) : (a + 256 * b + 65536 * c + 16777216 * d) &&& (A + 256 * B + 65536 * C + 16777216 * E) = (a &&& A) + 256 * (b &&& B) + 65536 * (c &&& C) + 16777216 * (d &&& E) := by
  have e1 : a + 256 * b + 65536 * c + 16777216 * d = 2 ^ 8 * (2 ^ 8 * (2 ^ 8 * d + c) + b) + a := by omega
  have e2 : A + 256 * B + 65536 * C + 16777216 * E = 2 ^ 8 * (2 ^ 8 * (2 ^ 8 * E + C) + B) + A := by omega
  rw [e1, e2, p_ad _ _ (by omega) (by omega), p_ad _ _ (by omega) (by omega), p_ad _ _ (by omega) (by omega)]
  omega
theorem p_b1 : ∀ b, b < 256 → ∀ t, t < 2 → (b / 2 + 128 * t) &&& 85 = (b / 2) &&& 85 := by decide +kernel
theorem p_b2 : ∀ b, b < 256 → ∀ t, t < 4 → (b / 4 + 64 * t) &&& 51 = (b / 4) &&& 51 := by decide +kernel
theorem p_b3 : ∀ b, b < 128 → ∀ t, t < 16 → (b + b / 16 + 16 * t) % 256 &&& 15 = (b + b / 16) % 256 &&& 15 := by decide +kernel
def p_s1 (b : Nat) : Nat := b - ((b / 2) &&& 85)
def p_s2 (b : Nat) : Nat := (p_s1 b &&& 51) + ((p_s1 b / 4) &&& 51)
def p_s3 (b : Nat) : Nat := ((p_s2 b + p_s2 b / 16) &&& 15)
theorem p_all : ∀ b, b < 256 → (b / 2) &&& 85 ≤ b ∧ p_s1 b < 256 ∧ p_s2 b < 103 ∧ p_s2 b % 16 < 8 ∧ p_s3 b = fb_ct (fun i => b.testBit i) 8 ∧ p_s3 b ≤ 8 ∧ p_s2 b + p_s2 b / 16 < 256 ∧ p_s2 b / 16 < 8 := by decide +kernel
theorem p_b4 : ∀ b, b < 103 → b % 16 < 8 → ∀ t, t < 8 → (b + b / 16 + 16 * t) &&& 15 = (b + b / 16) &&& 15 := by decide +kernel
theorem p_b5 : ∀ b, b < 103 → ∀ t, t < 16 → b / 16 < 8 → b % 16 < 8 → b + (b / 16 + 16 * t) &&& 15 = (b + b / 16) &&& 15 := by decide +kernel
theorem p_swar {n : Nat} (hn : n < 4294967296) (a b c d e : Nat) (ea : a = n - ((n / 2) &&& 1431655765)) (eb : b = (a &&& 858993459) + ((a / 4) &&& 858993459)) (ec : c = (b + b / 16) &&& 252645135) (ed : d = c + c / 256) (ee : e = d + d / 65536) : (n / 2) &&& 1431655765 ≤ n ∧ b + b / 16 < 4294967296 ∧ e < 4294967296 ∧ e % 64 = fb_ct (fun i => n.testBit i) 32 := by
  obtain ⟨b0, b1, b2, b3, h0, h1, h2, h3, rfl⟩ : ∃ b0 b1 b2 b3, b0 < 256 ∧ b1 < 256 ∧ b2 < 256 ∧ b3 < 256 ∧ n = b0 + 256 * b1 + 65536 * b2 + 16777216 * b3 := ⟨n % 256, n / 256 % 256, n / 65536 % 256, n / 16777216, by omega, by omega, by omega, by omega, by omega⟩
  have k1 : ((b0 + 256 * b1 + 65536 * b2 + 16777216 * b3) / 2) &&& 1431655765 = ((b0 / 2) &&& 85) + 256 * ((b1 / 2) &&& 85) + 65536 * ((b2 / 2) &&& 85) + 16777216 * ((b3 / 2) &&& 85) := by
    rw [show (b0 + 256 * b1 + 65536 * b2 + 16777216 * b3) / 2 = (b0 / 2 + 128 * (b1 % 2)) + 256 * (b1 / 2 + 128 * (b2 % 2)) + 65536 * (b2 / 2 + 128 * (b3 % 2)) + 16777216 * (b3 / 2) by omega, show 1431655765 = 85 + 256 * 85 + 65536 * 85 + 16777216 * 85 from rfl, p_and4 (by omega) (by omega) (by omega) (by omega) (by omega) (by omega), p_b1 _ h0 _ (by omega), p_b1 _ h1 _ (by omega), p_b1 _ h2 _ (by omega)]
  obtain ⟨q0, r0, s0, u0, t0, v0, w0, x0⟩ := p_all b0 h0
  obtain ⟨q1, r1, s1, u1, t1, v1, w1, x1⟩ := p_all b1 h1
  obtain ⟨q2, r2, s2, u2, t2, v2, w2, x2⟩ := p_all b2 h2
  obtain ⟨q3, r3, s3, u3, t3, v3, w3, x3⟩ := p_all b3 h3
  have ea' : a = p_s1 b0 + 256 * p_s1 b1 + 65536 * p_s1 b2 + 16777216 * p_s1 b3 := by
    rw [ea, k1]
    unfold p_s1
    omega
  have eb' : b = p_s2 b0 + 256 * p_s2 b1 + 65536 * p_s2 b2 + 16777216 * p_s2 b3 := by
    have f1 : a &&& 858993459 = (p_s1 b0 &&& 51) + 256 * (p_s1 b1 &&& 51) + 65536 * (p_s1 b2 &&& 51) + 16777216 * (p_s1 b3 &&& 51) := by
      rw [ea', show 858993459 = 51 + 256 * 51 + 65536 * 51 + 16777216 * 51 from rfl, p_and4 r0 r1 r2 (by omega) (by omega) (by omega)]
    have f2 : (a / 4) &&& 858993459 = (p_s1 b0 / 4 &&& 51) + 256 * (p_s1 b1 / 4 &&& 51) + 65536 * (p_s1 b2 / 4 &&& 51) + 16777216 * (p_s1 b3 / 4 &&& 51) := by
      rw [ea', show (p_s1 b0 + 256 * p_s1 b1 + 65536 * p_s1 b2 + 16777216 * p_s1 b3) / 4 = (p_s1 b0 / 4 + 64 * (p_s1 b1 % 4)) + 256 * (p_s1 b1 / 4 + 64 * (p_s1 b2 % 4)) + 65536 * (p_s1 b2 / 4 + 64 * (p_s1 b3 % 4)) + 16777216 * (p_s1 b3 / 4) by omega, show 858993459 = 51 + 256 * 51 + 65536 * 51 + 16777216 * 51 from rfl, p_and4 (by omega) (by omega) (by omega) (by omega) (by omega) (by omega), p_b2 _ r0 _ (by omega), p_b2 _ r1 _ (by omega), p_b2 _ r2 _ (by omega)]
    rw [eb, f1, f2]
    unfold p_s2
    omega
  have ec' : c = p_s3 b0 + 256 * p_s3 b1 + 65536 * p_s3 b2 + 16777216 * p_s3 b3 := by
    have f1 : b + b / 16 = (p_s2 b0 + (p_s2 b0 / 16 + 16 * (p_s2 b1 % 16))) + 256 * (p_s2 b1 + (p_s2 b1 / 16 + 16 * (p_s2 b2 % 16))) + 65536 * (p_s2 b2 + (p_s2 b2 / 16 + 16 * (p_s2 b3 % 16))) + 16777216 * (p_s2 b3 + p_s2 b3 / 16) := by
      rw [eb']
      omega
    rw [ec, f1, show 252645135 = 15 + 256 * 15 + 65536 * 15 + 16777216 * 15 from rfl, p_and4 (by omega) (by omega) (by omega) (by omega) (by omega) (by omega), p_b5 _ s0 _ (by omega) x0 u0, p_b5 _ s1 _ (by omega) x1 u1, p_b5 _ s2 _ (by omega) x2 u2]
    rfl
  have hct : fb_ct (fun i => (b0 + 256 * b1 + 65536 * b2 + 16777216 * b3).testBit i) 32 = p_s3 b0 + p_s3 b1 + p_s3 b2 + p_s3 b3 := by
    have hb : ∀ i, (b0 + 256 * b1 + 65536 * b2 + 16777216 * b3).testBit i = if i < 8 then b0.testBit i else if i < 16 then b1.testBit (i - 8) else if i < 24 then b2.testBit (i - 16) else b3.testBit (i - 24) := by
      intro i
      rw [show b0 + 256 * b1 + 65536 * b2 + 16777216 * b3 = 2 ^ 8 * (2 ^ 8 * (2 ^ 8 * b3 + b2) + b1) + b0 by omega, Nat.testBit_two_pow_mul_add _ (by omega), Nat.testBit_two_pow_mul_add _ (by omega), Nat.testBit_two_pow_mul_add _ (by omega)]
      by_cases c1 : i < 8
      · simp [c1]
      · by_cases c2 : i < 16
        · simp [c1, c2, show i - 8 < 8 by omega]
        · by_cases c3 : i < 24
          · rw [if_neg c1, if_neg (by omega), if_pos (by omega), if_neg c1, if_neg c2, if_pos c3, show i - 8 - 8 = i - 16 by omega]
          · rw [if_neg c1, if_neg (by omega), if_neg (by omega), if_neg c1, if_neg c2, if_neg c3, show i - 8 - 8 - 8 = i - 24 by omega]
    rw [show (32 : Nat) = 8 + (8 + (8 + 8)) from rfl, fb_ct_split, fb_ct_split, fb_ct_split, t0, t1, t2, t3]
    rw [fb_ct_cong (p := fun i => (b0 + 256 * b1 + 65536 * b2 + 16777216 * b3).testBit i) (q := fun i => b0.testBit i) (n := 8) (fun i hi => by rw [hb, if_pos hi])]
    rw [fb_ct_cong (p := fun k => (b0 + 256 * b1 + 65536 * b2 + 16777216 * b3).testBit (8 + k)) (q := fun i => b1.testBit i) (n := 8) (fun i hi => by rw [hb, if_neg (by omega), if_pos (by omega), show 8 + i - 8 = i by omega])]
    rw [fb_ct_cong (p := fun k => (b0 + 256 * b1 + 65536 * b2 + 16777216 * b3).testBit (8 + (8 + k))) (q := fun i => b2.testBit i) (n := 8) (fun i hi => by rw [hb, if_neg (by omega), if_neg (by omega), if_pos (by omega), show 8 + (8 + i) - 16 = i by omega])]
    rw [fb_ct_cong (p := fun k => (b0 + 256 * b1 + 65536 * b2 + 16777216 * b3).testBit (8 + (8 + (8 + k)))) (q := fun i => b3.testBit i) (n := 8) (fun i hi => by rw [hb, if_neg (by omega), if_neg (by omega), if_neg (by omega), show 8 + (8 + (8 + i)) - 24 = i by omega])]
    omega
  have g1 : c / 256 = p_s3 b1 + 256 * p_s3 b2 + 65536 * p_s3 b3 := by rw [ec']; omega
  have g2 : d = (p_s3 b0 + p_s3 b1) + 256 * (p_s3 b1 + p_s3 b2) + 65536 * (p_s3 b2 + p_s3 b3) + 16777216 * p_s3 b3 := by rw [ed, g1, ec']; omega
  have g3 : d / 65536 = (p_s3 b2 + p_s3 b3) + 256 * p_s3 b3 := by rw [g2]; omega
  have g4 : e = (p_s3 b0 + p_s3 b1 + p_s3 b2 + p_s3 b3) + 256 * (p_s3 b1 + p_s3 b2 + p_s3 b3 + 256 * (p_s3 b2 + p_s3 b3) + 65536 * p_s3 b3) := by rw [ee, g3, g2]; omega
  refine ⟨by rw [k1]; omega, by rw [eb']; omega, by rw [g4]; omega, ?_⟩
  rw [hct, g4]
  omega
theorem zu_nI {n : Nat} (hn : n < 4294967296) (k p : Nat) (s : Int32) (hs : ((s.toUInt32 &&& Int32.toUInt32 31).toBitVec % 32).toNat = k) (hp : 2 ^ k = p) : zushr (nI n) s = nI (n / p) := by
  rw [zushr, pk_ushrN hn s k hs, hp]
theorem pc_bit (x : Int32) : fn_JI_bitCount x = some (nI (pc x)) := by
  obtain ⟨n, hn, rfl⟩ := wb_of32 x
  obtain ⟨h1, h2, h3, h4⟩ := p_swar (n := n) hn _ _ _ _ _ rfl rfl rfl rfl rfl
  have hp : pc (nI n) = fb_ct (fun i => n.testBit i) 32 := by
    unfold pc
    exact fb_ct_cong fun i _ => bt_nI hn i
  rw [hp, ← h4]
  unfold fn_JI_bitCount
  simp only [zlet_eq]
  rw [zu_nI hn 1 2 1 (by decide) rfl, show (1431655765 : Int32) = nI 1431655765 from rfl, fa_and, pk_sub h1]
  generalize ha : n - ((n / 2) &&& 1431655765) = a at *
  rw [zu_nI (by omega) 2 4 2 (by decide) rfl, show (858993459 : Int32) = nI 858993459 from rfl, fa_and, fa_and, nI_add]
  generalize hb : (a &&& 858993459) + ((a / 4) &&& 858993459) = b at *
  rw [zu_nI (by omega) 4 16 4 (by decide) rfl, nI_add, show (252645135 : Int32) = nI 252645135 from rfl, fa_and]
  generalize hc : (b + b / 16) &&& 252645135 = c at *
  have hc2 : c ≤ 252645135 := by rw [← hc]; exact Nat.and_le_right
  rw [zu_nI (by omega) 8 256 8 (by decide) rfl, nI_add, zu_nI (by omega) 16 65536 16 (by decide) rfl, nI_add, show (63 : Int32) = nI (2 ^ 6 - 1) from rfl, fa_mask]
theorem pc_congr {x y : Int32} (h : ∀ i, i < 32 → bt x i = bt y i) : pc x = pc y := fb_ct_cong h
theorem pc_0 : pc 0 = 0 := fb_ct_zero.mpr fun i _ => b_0 i
/-! the lowest bit -/
theorem p_low : ∀ n : Nat, 0 < n → ∃ k q, n = 2 ^ k * (2 * q + 1) := by
  intro n
  induction n using Nat.strongRecOn with
  | ind n ih =>
    intro h
    rcases Nat.mod_two_eq_zero_or_one n with e | e
    · obtain ⟨k, q, hk⟩ := ih (n / 2) (by omega) (by omega)
      refine ⟨k + 1, q, ?_⟩
      rw [Nat.pow_succ, Nat.mul_right_comm, ← hk]
      omega
    · exact ⟨0, n / 2, by omega⟩
theorem p_odd (q i : Nat) : (2 * q + 1).testBit i = if i = 0 then true else q.testBit (i - 1) := by
  rw [show 2 * q + 1 = 2 ^ 1 * q + 1 by omega, Nat.testBit_two_pow_mul_add _ (by decide)]
  by_cases h : i = 0
  · subst h; rfl
  · simp [h, show ¬ i < 1 by omega]
theorem p_even (q i : Nat) : (2 * q).testBit i = if i = 0 then false else q.testBit (i - 1) := by
  have e : 2 * q = 2 ^ 1 * q + 0 := by omega
  rw [e, Nat.testBit_two_pow_mul_add _ (by decide)]
  by_cases h : i = 0
  · subst h; rfl
  · simp [h, show ¬ i < 1 by omega]
theorem p_lowb {k q i : Nat} : (2 ^ k * (2 * q + 1)).testBit i = if i < k then false else if i = k then true else q.testBit (i - k - 1) := by
  rw [show 2 ^ k * (2 * q + 1) = 2 ^ k * (2 * q + 1) + 0 from rfl, Nat.testBit_two_pow_mul_add _ (Nat.two_pow_pos k)]
  by_cases h : i < k
  · simp [h]
  · rw [if_neg h, if_neg h, p_odd]
    by_cases h2 : i = k
    · simp [h2]
    · simp [h2, show ¬ i - k = 0 by omega]
theorem p_clear {k q i : Nat} : (2 ^ k * (2 * q + 1) &&& (2 ^ k * (2 * q + 1) - 1)).testBit i = if i = k then false else (2 ^ k * (2 * q + 1)).testBit i := by
  have hp := Nat.two_pow_pos k
  have e : 2 ^ k * (2 * q + 1) - 1 = 2 ^ k * (2 * q) + (2 ^ k - 1) := by
    rw [Nat.mul_add, Nat.mul_one]
    omega
  rw [Nat.testBit_and, e, Nat.testBit_two_pow_mul_add _ (by omega), p_lowb, p_even]
  by_cases h : i < k
  · simp [h, show ¬ i = k by omega]
  · by_cases h2 : i = k
    · subst h2
      simp
    · simp [h, h2, show ¬ i - k = 0 by omega]
theorem p_low32 {x : Int32} (h : x ≠ 0) : ∃ k q, k < 32 ∧ un x = 2 ^ k * (2 * q + 1) := by
  have h0 : un x ≠ 0 := fun e => h (by rw [← nI_un x, e]; rfl)
  obtain ⟨k, q, e⟩ := p_low (un x) (by omega)
  refine ⟨k, q, ?_, e⟩
  have hx := un_lt x
  rcases Nat.lt_or_ge k 32 with g | g
  · exact g
  · have : 2 ^ 32 ≤ 2 ^ k := Nat.pow_le_pow_right (by decide) g
    have : 2 ^ k * 1 ≤ 2 ^ k * (2 * q + 1) := Nat.mul_le_mul_left _ (by omega)
    omega
theorem pc_next {x : Int32} (h : x ≠ 0) : pc (x &&& (x - 1)) + 1 = pc x := by
  obtain ⟨k, q, hk, e⟩ := p_low32 h
  have hx := un_lt x
  have hpos : 0 < un x := by rw [e]; exact Nat.mul_pos (Nat.two_pow_pos k) (by omega)
  have hb : ∀ i, i < 32 → bt (x &&& (x - 1)) i = (if i = k then false else bt x i) := by
    intro i _
    rw [show x - 1 = nI (un x - 1) by rw [← pk_sub (by omega), nI_un]; rfl, b_and, bt_un x, bt_nI (by omega), ← Nat.testBit_and, e, p_clear]
  have hk2 : bt x k = true := by
    rw [bt_un, e, p_lowb]
    simp
  have h3 := fb_ct_upd (bt x) false hk
  rw [hk2] at h3
  unfold pc
  rw [fb_ct_cong hb]
  simpa using h3
theorem z_ones (x : Int32) : fn_X12_ones x = some (nI (pc x)) := by
  unfold fn_X12_ones
  apply zok.eq
  refine z_mea (fun n (s : Int32 × Int32) => fn_X12_ones_4 x n s.1 s.2) (fun s => ∃ c, s.1 = nI c ∧ c + pc s.2 = pc x) (fun s => pc s.2) _ ?_ zFU (0, x) ?_ ⟨0, rfl, Nat.zero_add _⟩
  · rintro n ⟨s, y⟩ ⟨c, hc, hy⟩ ih
    show zok (fn_X12_ones_4 x (n + 1) s y) _
    rw [fn_X12_ones_4]
    by_cases h : y = 0
    · rw [if_pos h, zok_some]
      subst h
      rw [pc_0] at hy
      show s = _
      rw [show s = nI c from hc, ← hy]
      rfl
    · rw [if_neg h]
      have hn := pc_next h
      refine ih (s + 1, y &&& (y - 1)) ⟨c + 1, ?_, ?_⟩ ?_
      · show s + 1 = _
        rw [show s = nI c from hc, nI_1]
      · show c + 1 + pc (y &&& (y - 1)) = _
        simp only at hy
        omega
      · show pc (y &&& (y - 1)) < pc y
        omega
  · show pc x < zFU
    have := pc_le x
    unfold zFU
    omega
theorem p_neg {x : Int32} (h : 0 < un x) : -x = nI (4294967296 - un x) := by
  have hx := un_lt x
  have e : x + nI (4294967296 - un x) = 0 := by
    rw [← nI_un x, un_nI hx, nI_add, show un x + (4294967296 - un x) = 4294967296 by omega]
    rfl
  have e2 : -x + (x + nI (4294967296 - un x)) = -x + 0 := by rw [e]
  rw [← Int32.add_assoc, Int32.add_left_neg, Int32.zero_add, Int32.add_zero] at e2
  exact e2.symm
/-- x's lowest bit by itself -/
theorem p_lowest {x : Int32} {k q : Nat} (hk : k < 32) (e : un x = 2 ^ k * (2 * q + 1)) : x &&& -x = nI (2 ^ k) := by
  have hx := un_lt x
  have hpk := Nat.two_pow_pos k
  have hpos : 0 < un x := by rw [e]; exact Nat.mul_pos hpk (by omega)
  have hsplit : 4294967296 = 2 ^ k * (2 * 2 ^ (31 - k)) := by
    rw [← Nat.pow_succ', ← Nat.pow_add, show k + (31 - k).succ = 32 by omega]
  have hq : q < 2 ^ (31 - k) := by
    rcases Nat.lt_or_ge q (2 ^ (31 - k)) with g | g
    · exact g
    · exfalso
      have : 2 ^ k * (2 * 2 ^ (31 - k)) ≤ 2 ^ k * (2 * q + 1) := Nat.mul_le_mul_left _ (by omega)
      omega
  have e2 : 4294967296 - un x = 2 ^ k * (2 * (2 ^ (31 - k) - (q + 1)) + 1) := by
    rw [e, hsplit, ← Nat.mul_sub]
    congr 1
    omega
  apply b_ext
  intro i hi
  rw [p_neg hpos, b_and, bt_un x, bt_nI (by omega), bt_nI (Nat.lt_of_lt_of_le (Nat.pow_lt_pow_right (by decide) hk) (by decide)), e2, e, p_lowb, p_lowb, Nat.testBit_two_pow]
  by_cases h1 : i < k
  · simp [h1, show ¬ k = i by omega]
  · by_cases h2 : i = k
    · simp [h2]
    · rw [if_neg h1, if_neg h1, if_neg h2, if_neg h2, Nat.testBit_two_pow_sub_succ hq]
      simp [show ¬ k = i by omega]
      intro a b
      simp [a]
theorem p_m1 : ∀ k, k < 32 → pc (nI (2 ^ k - 1)) = k := by decide +kernel
theorem p_lowestOf {x : Int32} {k q : Nat} (hk : k < 32) (e : un x = 2 ^ k * (2 * q + 1)) : fn_X11_lowestOf x = some (nI k) := by
  unfold fn_X11_lowestOf
  rw [p_lowest hk e, show nI (2 ^ k) - (1 : Int32) = nI (2 ^ k - 1) from pk_sub (Nat.two_pow_pos k), pc_bit, p_m1 k hk]
  rfl
/-- the lowest bit by its place -/
theorem z_lowestOf {x : Int32} {k : Nat} (hk : k < 32) (h1 : bt x k = true) (h2 : ∀ i, i < k → bt x i = false) : fn_X11_lowestOf x = some (nI k) := by
  have h0 : x ≠ 0 := fun e => by rw [e, b_0] at h1; cases h1
  obtain ⟨j, q, hj, e⟩ := p_low32 h0
  have b1 : bt x j = true := by rw [bt_un, e, p_lowb]; simp
  have b2 : ∀ i, i < j → bt x i = false := fun i hi => by rw [bt_un, e, p_lowb, if_pos hi]
  obtain rfl : j = k := by
    rcases Nat.lt_trichotomy j k with g | g | g
    · rw [h2 j g] at b1; cases b1
    · exact g
    · rw [b2 k g] at h1; cases h1
  exact p_lowestOf hj e
