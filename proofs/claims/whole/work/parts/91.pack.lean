/-! THE MATHEMATICS: most signs: no more than what the balls leave room for -/
def pcN (n : Nat) : Nat := n % 2 + n / 2 % 2 + n / 4 % 2 + n / 8 % 2 + n / 16 % 2 + n / 32 % 2
def bT (a c d : Nat) : Nat := 2 ^ a * (1 + (if 1 ≤ d then c - a else 0) + (if 2 ≤ d then (c - a) * (c - a - 1) / 2 else 0) + (if 3 ≤ d then (c - a) * (c - a - 1) * (c - a - 2) / 6 else 0))
theorem pcN_eq : ∀ n, n < 64 → pc (nI n) = pcN n := by decide +kernel
theorem bT6 : ∀ a, a < 7 → ∀ d, d < 4 → fn_X2_ball (nI a) (nI 6) (nI d) = some (nI (bT a 6 d)) ∧ 1 ≤ bT a 6 d ∧ (1 ≤ a ∨ 1 ≤ d → 2 ≤ bT a 6 d) ∧ bT a 6 d ≤ 64 := by decide +kernel
theorem bT4 : ∀ a, a < 5 → ∀ d, d < 4 → fn_X2_ball (nI a) (nI 4) (nI d) = some (nI (bT a 4 d)) ∧ 1 ≤ bT a 4 d ∧ (1 ≤ a ∨ 1 ≤ d → 2 ≤ bT a 4 d) ∧ bT a 4 d ≤ 64 := by decide +kernel
theorem bC6 : ∀ v, v < 64 → ∀ d, d < 4 → bT (pcN v) 6 d ≤ fb_ct (fun x => decide (pcN (x &&& (63 ^^^ v)) ≤ d)) 64 := by decide +kernel
theorem bC4 : ∀ v, v < 16 → ∀ d, d < 4 → bT (pcN v) 4 d ≤ fb_ct (fun x => decide (pcN (x &&& (63 ^^^ v)) ≤ d)) 16 := by decide +kernel
theorem x_hi {c k v : Nat} (hk : k < 2 ^ c) (hv : v < 2 ^ c) : (2 ^ c + k) ^^^ v = 2 ^ c + (k ^^^ v) := by
  apply Nat.eq_of_testBit_eq
  intro i
  have h1 := Nat.testBit_two_pow_mul_add 1 hk i
  have h2 := Nat.testBit_two_pow_mul_add 1 (Nat.xor_lt_two_pow hk hv) i
  rw [Nat.mul_one] at h1 h2
  rw [Nat.testBit_xor, h1, h2, Nat.testBit_xor]
  by_cases q : i < c
  · rw [if_pos q, if_pos q]
  · rw [if_neg q, if_neg q, Nat.testBit_lt_two_pow (x := v) (Nat.lt_of_lt_of_le hv (Nat.pow_le_pow_right (by decide) (by omega))), Bool.xor_false]
theorem x_hi2 {c k v : Nat} (hk : k < 2 ^ c) (hv : v < 2 ^ c) : (2 ^ c + k) ^^^ (2 ^ c + v) = k ^^^ v := by
  apply Nat.eq_of_testBit_eq
  intro i
  have h1 := Nat.testBit_two_pow_mul_add 1 hk i
  have h2 := Nat.testBit_two_pow_mul_add 1 hv i
  rw [Nat.mul_one] at h1 h2
  rw [Nat.testBit_xor, h1, h2, Nat.testBit_xor]
  by_cases q : i < c
  · rw [if_pos q, if_pos q]
  · rw [if_neg q, if_neg q, Nat.testBit_lt_two_pow (x := v) (Nat.lt_of_lt_of_le hv (Nat.pow_le_pow_right (by decide) (by omega))), Nat.testBit_lt_two_pow (x := k) (Nat.lt_of_lt_of_le hk (Nat.pow_le_pow_right (by decide) (by omega))), Bool.xor_self]
    rfl
theorem ct_xor : ∀ (c : Nat) (p : Nat → Bool) (v : Nat), v < 2 ^ c → fb_ct (fun x => p (x ^^^ v)) (2 ^ c) = fb_ct p (2 ^ c)
  | 0, p, v, h => by
    obtain rfl : v = 0 := by omega
    rfl
  | c + 1, p, v, h => by
    have e : 2 ^ (c + 1) = 2 ^ c + 2 ^ c := by rw [Nat.pow_succ]; omega
    rw [e] at h ⊢
    rw [fb_ct_split, fb_ct_split]
    rcases Nat.lt_or_ge v (2 ^ c) with g | g
    · have a1 := ct_xor c p v g
      have a2 := ct_xor c (fun y => p (2 ^ c + y)) v g
      have a3 : fb_ct (fun k => p ((2 ^ c + k) ^^^ v)) (2 ^ c) = fb_ct (fun x => (fun y => p (2 ^ c + y)) (x ^^^ v)) (2 ^ c) := fb_ct_cong fun k hk => by
        show p ((2 ^ c + k) ^^^ v) = p (2 ^ c + (k ^^^ v))
        rw [x_hi hk g]
      rw [a1, a3]
      exact congrArg (fb_ct p (2 ^ c) + ·) a2
    · obtain ⟨w, rfl⟩ : ∃ w, v = 2 ^ c + w := ⟨v - 2 ^ c, by omega⟩
      have hw : w < 2 ^ c := by omega
      have a1 := ct_xor c p w hw
      have a2 := ct_xor c (fun y => p (2 ^ c + y)) w hw
      have a3 : fb_ct (fun k => p (k ^^^ (2 ^ c + w))) (2 ^ c) = fb_ct (fun x => (fun y => p (2 ^ c + y)) (x ^^^ w)) (2 ^ c) := fb_ct_cong fun k hk => by
        show p (k ^^^ (2 ^ c + w)) = p (2 ^ c + (k ^^^ w))
        rw [Nat.xor_comm, x_hi hw hk, Nat.xor_comm w k]
      have a4 : fb_ct (fun k => p ((2 ^ c + k) ^^^ (2 ^ c + w))) (2 ^ c) = fb_ct (fun x => p (x ^^^ w)) (2 ^ c) := fb_ct_cong fun k hk => by
        show p ((2 ^ c + k) ^^^ (2 ^ c + w)) = p (k ^^^ w)
        rw [x_hi2 hk hw]
      rw [a3, a4, a1]
      exact (congrArg (· + fb_ct p (2 ^ c)) a2).trans (Nat.add_comm _ _)
section M91
variable {D : zD} {nc c d e : Nat} {cv : Nat → Int32}
theorem apt_sym (u v : Nat) : apt c nc cv e u v = apt c nc cv e v u := by
  unfold apt
  rw [Int32.xor_comm, Bool.and_comm (decide (u < 2 ^ c))]
theorem apt_irr (h : 1 ≤ nc) (u : Nat) : apt c nc cv e u u = false := by
  unfold apt
  have : cfx nc cv e (nI u ^^^ nI u) = true := cfx_iff.mpr ⟨0, h, by
    rw [Int32.xor_self, Int32.zero_and]
    exact Nat.le_trans (Nat.le_of_eq pc_0) (Nat.zero_le _)⟩
  rw [this]
  simp
/-- the ball about u, cover k left out -/
def bal (cv : Nat → Int32) (k d u x : Nat) : Bool := decide (pc ((nI x ^^^ nI u) &&& (cv k ^^^ -1)) ≤ d)
theorem bal_dis {k u v x : Nat} (hk : k < nc) (h : apt c nc cv (2 * d) u v = true) (h1 : bal cv k d u x = true) (h2 : bal cv k d v x = true) : False := by
  unfold apt at h
  rw [Bool.and_eq_true, Bool.not_eq_true'] at h
  unfold bal at h1 h2
  rw [decide_eq_true_eq] at h1 h2
  have h3 : cfx nc cv (2 * d) (nI u ^^^ nI v) = true := cfx_iff.mpr ⟨k, hk, by
    have : pc ((nI u ^^^ nI v) &&& (cv k ^^^ -1)) ≤ pc (((nI x ^^^ nI u) &&& (cv k ^^^ -1)) ||| ((nI x ^^^ nI v) &&& (cv k ^^^ -1))) := pc_sub fun i hi r => by
      generalize cv k ^^^ -1 = m at *
      rw [b_and, b_xor] at r
      rw [b_or, b_and, b_and, b_xor, b_xor]
      revert r
      cases bt (nI u) i <;> cases bt (nI v) i <;> cases bt (nI x) i <;> cases bt m i <;> decide
    have h4 := pc_orle ((nI x ^^^ nI u) &&& (cv k ^^^ -1)) ((nI x ^^^ nI v) &&& (cv k ^^^ -1))
    omega⟩
  rw [h3] at h
  cases h.2
theorem bal_ct {k u : Nat} (hu : u < 2 ^ c) : fb_ct (bal cv k d u) (2 ^ c) = fb_ct (bal cv k d 0) (2 ^ c) := by
  rw [← ct_xor c (bal cv k d 0) u hu]
  refine fb_ct_cong fun x _ => ?_
  unfold bal
  rw [nx_xor, nx_xor, Nat.xor_zero]
theorem pack {k : Nat} (hk : k < nc) : ∀ (m : Nat) (S F : Nat → Bool), CL (apt c nc cv (2 * d)) m S → (∀ u, S u = true → u < 2 ^ c ∧ ∀ x, bal cv k d u x = true → F x = true) → m * fb_ct (bal cv k d 0) (2 ^ c) ≤ fb_ct F (2 ^ c)
  | 0, _, _, _, _ => by rw [Nat.zero_mul]; exact Nat.zero_le _
  | m + 1, S, F, ⟨v, _, hs, hc⟩, hF => by
    have h1 := pack hk m (fun u => S u && apt c nc cv (2 * d) v u) (fun x => F x && !bal cv k d v x) hc fun u hu => by
      rw [Bool.and_eq_true] at hu
      refine ⟨(hF u hu.1).1, fun x hx => ?_⟩
      rw [Bool.and_eq_true, Bool.not_eq_true']
      refine ⟨(hF u hu.1).2 x hx, ?_⟩
      cases q : bal cv k d v x
      · rfl
      · exact (bal_dis hk hu.2 q hx).elim
    have h2 : fb_ct F (2 ^ c) = fb_ct (bal cv k d v) (2 ^ c) + fb_ct (fun x => F x && !bal cv k d v x) (2 ^ c) := by
      rw [← fb_ct_or (p := bal cv k d v) (q := fun x => F x && !bal cv k d v x)]
      · refine fb_ct_cong fun x _ => ?_
        have := (hF v hs).2 x
        revert this
        cases F x <;> cases bal cv k d v x <;> simp
      · intro x _ ⟨r1, r2⟩
        rw [r1] at r2
        simp at r2
    rw [bal_ct (hF v hs).1] at h2
    rw [Nat.add_mul, Nat.one_mul]
    omega
theorem fb_lt (N : Nat) : ∀ M, fb_ct (fun u => decide (u < N)) M ≤ N
  | 0 => Nat.zero_le _
  | M + 1 => by
    have h1 := fb_lt N M
    have h2 := fb_ct_le (fun u => decide (u < N)) M
    rw [fb_ct_succ]
    by_cases q : M < N
    · rw [if_pos (decide_eq_true q)]; omega
    · rw [if_neg (by rw [decide_eq_false q]; decide)]; omega
theorem CL_root {A : Nat → Nat → Bool} {N k : Nat} (h0 : 0 < N) (hA : ∀ u v, A u v = true → v < N) (h : CL A k (A 0)) : CL A (k + 1) (fun u => decide (u < N)) := ⟨0, by omega, decide_eq_true h0, CL_sub k (fun u _ r => by
  show (decide (u < N) && A 0 u) = true
  rw [r, decide_eq_true (hA _ _ r)]; rfl) h⟩
theorem CL_full {A : Nat → Nat → Bool} {N : Nat} (hN : N ≤ 64) (hA : ∀ u v, u < N → v < N → u ≠ v → A u v = true) : ∀ (k j : Nat) (S : Nat → Bool), j + k = N → (∀ u, j ≤ u → u < N → S u = true) → CL A k S
  | 0, _, _, _, _ => trivial
  | k + 1, j, S, h, hS => ⟨j, by omega, hS j (Nat.le_refl _) (by omega), CL_full hN hA k (j + 1) _ (by omega) fun u h1 h2 => by
    show (S u && A j u) = true
    rw [hS u (by omega) h2, hA j u (by omega) h2 (by omega)]; rfl⟩
end M91
