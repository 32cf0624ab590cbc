/-! THE MATHEMATICS: sets of 64, cliques -/
def uL (x : Int64) : Nat := x.toBitVec.toNat
theorem uL_lt (x : Int64) : uL x < 18446744073709551616 := x.toBitVec.isLt
theorem lN_uL (x : Int64) : lN (uL x) = x := wb_inj (by rw [wb_tb]; unfold uL; simp)
theorem lb_uL (x : Int64) (i : Nat) : lb x i = (uL x).testBit i := rfl
theorem lb_lN {n : Nat} (h : n < 18446744073709551616) (i : Nat) : lb (lN n) i = n.testBit i := by
  rw [lb_uL]
  unfold uL
  rw [wb_tn h]
theorem l_neg {x : Int64} (h : 0 < uL x) : -x = lN (18446744073709551616 - uL x) := by
  apply wb_inj
  apply BitVec.eq_of_toNat_eq
  rw [Int64.toBitVec_neg, BitVec.toNat_neg, wb_tb, BitVec.toNat_ofNat]
  have := uL_lt x
  rfl
theorem l_lowest {x : Int64} {k q : Nat} (hk : k < 64) (e : uL x = 2 ^ k * (2 * q + 1)) : x &&& -x = lN (2 ^ k) := by
  have hx := uL_lt x
  have hpk := Nat.two_pow_pos k
  have hpos : 0 < uL x := by rw [e]; exact Nat.mul_pos hpk (by omega)
  have hsplit : 18446744073709551616 = 2 ^ k * (2 * 2 ^ (63 - k)) := by
    rw [← Nat.pow_succ', ← Nat.pow_add, show k + (63 - k).succ = 64 by omega]
  have hq : q < 2 ^ (63 - k) := by
    rcases Nat.lt_or_ge q (2 ^ (63 - k)) with g | g
    · exact g
    · exfalso
      have : 2 ^ k * (2 * 2 ^ (63 - k)) ≤ 2 ^ k * (2 * q + 1) := Nat.mul_le_mul_left _ (by omega)
      omega
  have e2 : 18446744073709551616 - uL x = 2 ^ k * (2 * (2 ^ (63 - k) - (q + 1)) + 1) := by
    rw [e, hsplit, ← Nat.mul_sub]
    congr 1
    omega
  apply l_ext
  intro i hi
  rw [l_neg hpos, l_and, lb_uL x, lb_lN (by omega), lb_lN (Nat.lt_of_lt_of_le (Nat.pow_lt_pow_right (by decide) hk) (by decide)), e2, e, p_lowb, p_lowb, Nat.testBit_two_pow]
  by_cases h1 : i < k
  · simp [h1, show ¬ k = i by omega]
  · by_cases h2 : i = k
    · simp [h2]
    · rw [if_neg h1, if_neg h1, if_neg h2, if_neg h2, Nat.testBit_two_pow_sub_succ hq]
      simp [show ¬ k = i by omega]
      intro a b
      simp [a]
theorem l_m1c : ∀ k, k < 64 → fn_JJ_bitCount (lN (2 ^ k) - 1) = some (nI k) := by decide +kernel
theorem lb_first {x : Int64} (h : ¬ x = 0) : ∃ k q, k < 64 ∧ uL x = 2 ^ k * (2 * q + 1) ∧ lb x k = true ∧ ∀ i, i < k → lb x i = false := by
  have h0 : 0 < uL x := by
    rcases Nat.eq_zero_or_pos (uL x) with g | g
    · exact absurd (by rw [← lN_uL x, g]; rfl) h
    · exact g
  obtain ⟨k, q, e⟩ := p_low _ h0
  have hk : k < 64 := by
    rcases Nat.lt_or_ge k 64 with g | g
    · exact g
    · exfalso
      have h1 : 2 ^ 64 ≤ 2 ^ k := Nat.pow_le_pow_right (by decide) g
      have h2 : 2 ^ k * 1 ≤ 2 ^ k * (2 * q + 1) := Nat.mul_le_mul_left _ (by omega)
      have := uL_lt x
      omega
  exact ⟨k, q, hk, e, by rw [lb_uL, e, p_lowb]; simp, fun i hi => by rw [lb_uL, e, p_lowb, if_pos hi]⟩
/-- the class's lowest and the reference's -/
theorem l_low {x : Int64} (h : ¬ x = 0) : ∃ k, k < 64 ∧ lb x k = true ∧ fn_JJ_bitCount ((x &&& -x) - 1) = some (nI k) ∧ fn_X12_lowest x = some (nI k) := by
  obtain ⟨k, q, hk, e, h1, h2⟩ := lb_first h
  refine ⟨k, hk, h1, by rw [l_lowest hk e]; exact l_m1c k hk, ?_⟩
  unfold fn_X12_lowest
  refine zok.eq (z_inv k (fun n i (_ : Unit) => fn_X12_lowest_2 x n (nI i)) (fun _ _ => True) _ ?_ ?_ 0 zFU () (Nat.zero_le _) (zfu_gt (by omega)) trivial)
  · intro n i _ hi _ ih
    show zok (fn_X12_lowest_2 x (n + 1) (nI i)) _
    rw [fn_X12_lowest_2, if_pos ((l_tst x (by omega)).mpr (h2 i hi)), nI_1]
    exact ih () trivial
  · intro n _ _
    show zok (fn_X12_lowest_2 x (n + 1) (nI k)) _
    rw [fn_X12_lowest_2, if_neg (fun r => by rw [(l_tst x hk).mp r] at h1; cases h1), zok_some]
def lct (x : Int64) : Nat := fb_ct (lb x) 64
theorem l_ones (x : Int64) : fn_X12_onesOf x = some (nI (lct x)) := by
  unfold fn_X12_onesOf
  rw [z_ones, Option.bind_some, z_ones, Option.bind_some, nI_add]
  congr 2
  unfold lct pc
  rw [show (64 : Nat) = 32 + 32 from rfl, fb_ct_split]
  have e1 : ∀ i, i < 32 → bt x.toInt32 i = lb x i := fun i hi => by
    unfold bt lb
    rw [Int64.toBitVec_toInt32, BitVec.getLsbD_signExtend, decide_eq_true hi, Bool.true_and, if_pos (by omega)]
  have e2 : ∀ i, i < 32 → bt (zlushr x 32).toInt32 i = lb x (32 + i) := fun i hi => by
    have e3 : zlushr x 32 = lN (uL x / 2 ^ 32) := by
      have := wb_shr (n := uL x) (k := 32) (uL_lt x) (by omega)
      rw [lN_uL] at this
      exact this
    unfold bt
    rw [Int64.toBitVec_toInt32, BitVec.getLsbD_signExtend, decide_eq_true hi, Bool.true_and, if_pos (by omega)]
    show lb (zlushr x 32) i = _
    rw [e3, lb_lN (Nat.lt_of_le_of_lt (Nat.div_le_self _ _) (uL_lt x)), Nat.testBit_div_two_pow, lb_uL, Nat.add_comm]
  rw [fb_ct_cong e1, fb_ct_cong e2]
section M87
variable {A : Nat → Nat → Bool}
theorem CL_sub : ∀ (k : Nat) {S T : Nat → Bool}, (∀ u, u < 64 → S u = true → T u = true) → CL A k S → CL A k T
  | 0, _, _, _, _ => trivial
  | k + 1, S, T, h, ⟨v, hv, hs, hc⟩ => ⟨v, hv, h v hv hs, CL_sub k (fun u hu q => by
    rw [Bool.and_eq_true] at q ⊢
    exact ⟨h u hu q.1, q.2⟩) hc⟩
def BD (A : Nat → Nat → Bool) (q : Nat) (S : Nat → Bool) : Prop := ∀ k, CL A k S → k ≤ q
theorem CL_ind {I : Nat → Bool} (hI : ∀ u v, u < 64 → v < 64 → I u = true → I v = true → A u v = false) : ∀ (k : Nat) {S T : Nat → Bool}, (∀ u, u < 64 → S u = true → T u = true ∨ I u = true) → CL A k S → CL A (k - 1) T
  | 0, _, _, _, _ => trivial
  | k + 1, S, T, h, ⟨v, hv, hs, hc⟩ => by
    by_cases q : I v = true
    · refine CL_sub k (fun u hu r => ?_) hc
      rw [Bool.and_eq_true] at r
      rcases h u hu r.1 with g | g
      · exact g
      · rw [hI v u hv hu q g] at r; cases r.2
    · have hT : T v = true := by
        rcases h v hv hs with g | g
        · exact g
        · exact absurd g q
      have := CL_ind hI k (S := fun u => S u && A v u) (T := fun u => T u && A v u) (fun u hu r => by
        rw [Bool.and_eq_true] at r
        rcases h u hu r.1 with g | g
        · exact Or.inl (by rw [Bool.and_eq_true]; exact ⟨g, r.2⟩)
        · exact Or.inr g) hc
      cases k with
      | zero => trivial
      | succ k => exact ⟨v, hv, hT, this⟩
theorem BD_add {q : Nat} {S T I : Nat → Bool} (h : BD A q T) (hI : ∀ u v, u < 64 → v < 64 → I u = true → I v = true → A u v = false) (hs : ∀ u, u < 64 → S u = true → T u = true ∨ I u = true) : BD A (q + 1) S := fun k hk => by
  have := h _ (CL_ind hI k hs hk)
  omega
theorem BD_sub {q r : Nat} {S T : Nat → Bool} (h : BD A q T) (hq : q ≤ r) (hs : ∀ u, u < 64 → S u = true → T u = true) : BD A r S := fun k hk => Nat.le_trans (h k (CL_sub k hs hk)) hq
theorem CL_split (hA : ∀ u v, A u v = A v u) {v : Nat} (hv : v < 64) : ∀ (k : Nat) {S : Nat → Bool}, CL A k S → CL A k (fun u => S u && !decide (u = v)) ∨ (S v = true ∧ ∃ j, k = j + 1 ∧ CL A j (fun u => S u && A v u))
  | 0, _, _ => Or.inl trivial
  | k + 1, S, ⟨w, hw, hs, hc⟩ => by
    by_cases q : w = v
    · subst q
      exact Or.inr ⟨hs, k, rfl, hc⟩
    · rcases CL_split hA hv k hc with g | ⟨g1, j, rfl, g2⟩
      · refine Or.inl ⟨w, hw, by show (S w && !decide (w = v)) = true; rw [hs, decide_eq_false q]; rfl, CL_sub k (fun u _ r => ?_) g⟩
        revert r
        show (S u && A w u && !decide (u = v)) = true → (S u && !decide (u = v) && A w u) = true
        cases S u <;> cases A w u <;> cases decide (u = v) <;> decide
      · rw [Bool.and_eq_true] at g1
        refine Or.inr ⟨g1.1, j + 1, rfl, w, hw, by show (S w && A v w) = true; rw [hs, hA v w, g1.2]; rfl, CL_sub j (fun u _ r => ?_) g2⟩
        revert r
        show (S u && A w u && A v u) = true → (S u && A v u && A w u) = true
        cases S u <;> cases A w u <;> cases A v u <;> decide
theorem CL_card (hr : ∀ u, A u u = false) : ∀ (k : Nat) {S : Nat → Bool}, CL A k S → k ≤ fb_ct S 64
  | 0, _, _ => Nat.zero_le _
  | k + 1, S, ⟨v, hv, hs, hc⟩ => by
    have h1 := CL_card hr k hc
    have h2 := fb_ct_upd S false (i := v) (n := 64) hv
    rw [hs, if_pos rfl, if_neg (by decide)] at h2
    have h3 : fb_ct (fun u => S u && A v u) 64 ≤ fb_ct (fun k => if k = v then false else S k) 64 := fb_ct_sub fun u _ r => by
      rw [Bool.and_eq_true] at r
      by_cases q : u = v
      · subst q; rw [hr] at r; cases r.2
      · rw [if_neg q]; exact r.1
    omega
end M87
