/-! THE MATHEMATICS: single bits, boards -/
def bit1 (i : Nat) : Int32 := (1 : Int32) <<< (nI i &&& 31)
theorem bit1_u (i : Nat) : (1 : Int32) <<< (nI i &&& 31) = bit1 i := rfl
theorem b_1 : ∀ j, j < 32 → bt 1 j = decide (j = 0) := by decide +kernel
theorem bt_bit1 : ∀ i, i < 32 → ∀ j, j < 32 → bt (bit1 i) j = decide (j = i) := by decide +kernel
theorem bit1_eq : ∀ i, i < 32 → bit1 i = nI (2 ^ i) := by decide +kernel
theorem bd_eq : ∀ c, c < 31 → (1 : Int32) <<< (nI c &&& 31) - 1 = nI (2 ^ c - 1) := by decide +kernel
theorem bd_eq2 : ∀ c, c < 31 → bit1 c - 1 = nI (2 ^ c - 1) := by decide +kernel
theorem bt_not (x : Int32) {i : Nat} (hi : i < 32) : bt (x ^^^ -1) i = !bt x i := by
  rw [b_xor, b_m1 i hi]
  cases bt x i <;> rfl
theorem bt_bd {c : Nat} (hc : c < 32) (i : Nat) : bt (nI (2 ^ c - 1)) i = decide (i < c) := by
  have h : 2 ^ c ≤ 2 ^ 31 := Nat.pow_le_pow_right (by decide) (by omega)
  rw [bt_nI (by omega), Nat.testBit_two_pow_sub_one]
theorem z_shr1 (x : Int32) {i : Nat} (hi : i < 32) : (x >>> (nI i &&& 31)) &&& 1 = if bt x i = true then 1 else 0 := by
  apply b_ext
  intro j hj
  rw [b_and, b_sshr i hi x hj, b_1 j hj]
  by_cases e : j = 0
  · subst e
    rw [if_pos (by omega), Nat.add_zero]
    cases bt x i <;> decide
  · rw [decide_eq_false e, Bool.and_false]
    split
    · rw [b_1 j hj, decide_eq_false e]
    · rw [b_0]
theorem bt_0 (x : Int32) (i : Nat) (hi : i < 32) : (x >>> (nI i &&& 31)) &&& 1 = 0 ↔ bt x i = false := by
  rw [z_shr1 x hi]
  cases bt x i <;> decide
theorem bt_1 (x : Int32) (i : Nat) (hi : i < 32) : (x >>> (nI i &&& 31)) &&& 1 = 1 ↔ bt x i = true := by
  rw [z_shr1 x hi]
  cases bt x i <;> decide
theorem un_iff {x : Int32} {c : Nat} (hc : c ≤ 32) : un x < 2 ^ c ↔ ∀ i, c ≤ i → i < 32 → bt x i = false := by
  constructor
  · intro h i h1 _
    rw [bt_un]
    exact Nat.testBit_lt_two_pow (Nat.lt_of_lt_of_le h (Nat.pow_le_pow_right (by decide) h1))
  · intro h
    apply Nat.lt_pow_two_of_testBit
    intro i hi
    rcases Nat.lt_or_ge i 32 with g | g
    · exact h i hi g
    · exact Nat.testBit_lt_two_pow (Nat.lt_of_lt_of_le (un_lt x) (Nat.le_trans (by decide) (Nat.pow_le_pow_right (by decide) g)))
theorem un_xor {x y : Int32} {c : Nat} (hc : c ≤ 32) (hx : un x < 2 ^ c) (hy : un y < 2 ^ c) : un (x ^^^ y) < 2 ^ c := by
  rw [un_iff hc] at *
  intro i h1 h2
  rw [b_xor, hx i h1 h2, hy i h1 h2]
  rfl
theorem un_and {x y : Int32} {c : Nat} (hc : c ≤ 32) (hx : un x < 2 ^ c) : un (x &&& y) < 2 ^ c := by
  rw [un_iff hc] at *
  intro i h1 h2
  rw [b_and, hx i h1 h2]
  rfl
theorem un_or {x y : Int32} {c : Nat} (hc : c ≤ 32) (hx : un x < 2 ^ c) (hy : un y < 2 ^ c) : un (x ||| y) < 2 ^ c := by
  rw [un_iff hc] at *
  intro i h1 h2
  rw [b_or, hx i h1 h2, hy i h1 h2]
  rfl
theorem pc_un {x : Int32} {c : Nat} (hc : c ≤ 32) (h : un x < 2 ^ c) : pc x ≤ c := by
  rw [un_iff hc] at h
  unfold pc
  rw [show 32 = c + (32 - c) by omega, fb_ct_split, fb_ct_zero.mpr fun k hk => h (c + k) (by omega) (by omega)]
  exact fb_ct_le _ _
theorem pc_ct {x : Int32} {c : Nat} (hc : c ≤ 32) (h : un x < 2 ^ c) : pc x = fb_ct (bt x) c := by
  rw [un_iff hc] at h
  unfold pc
  rw [show 32 = c + (32 - c) by omega, fb_ct_split, fb_ct_zero.mpr fun k hk => h (c + k) (by omega) (by omega)]
  rfl
theorem c_pt {x : Int32} {c : Nat} (hc : c < 31) : x &&& (nI (2 ^ c - 1) ^^^ -1) = 0 ↔ un x < 2 ^ c := by
  rw [un_iff (by omega)]
  constructor
  · intro h i h1 h2
    have : bt (x &&& (nI (2 ^ c - 1) ^^^ -1)) i = false := by rw [h, b_0]
    rw [b_and, bt_not _ h2, bt_bd (by omega), decide_eq_false (by omega)] at this
    simpa using this
  · intro h
    apply b_ext
    intro i hi
    rw [b_and, bt_not _ hi, bt_bd (by omega), b_0]
    rcases Nat.lt_or_ge i c with g | g
    · rw [decide_eq_true g]; simp
    · rw [h i g hi]; rfl
theorem wh_le {w h : Nat} (hw : w ≤ 6) (hh : h ≤ 5) : w * h ≤ 30 := Nat.le_trans (Nat.mul_le_mul hw hh) (by decide)
theorem c_board {D : zD} {a w h : Nat} (h0 : gI D a 0 = nI w) (h1 : gI D a 1 = nI h) (hw : w ≤ 6) (hh : h ≤ 5) : fn_X0_board a D = some (nI (2 ^ (w * h) - 1)) := by
  have := wh_le hw hh
  unfold fn_X0_board fn_X0_cells
  rw [h0, h1, Option.bind_some, pk_mul, bd_eq _ (by omega)]
theorem x_allCells {D : zD} {w h : Nat} (h0 : gI D 102 14 = nI w) (h1 : gI D 102 15 = nI h) (hw : w ≤ 6) (hh : h ≤ 5) : fn_X12_allCells D = some (nI (2 ^ (w * h) - 1)) := by
  have := wh_le hw hh
  unfold fn_X12_allCells fn_X12_cells
  rw [h0, h1, Option.bind_some, pk_mul, bd_eq _ (by omega)]
theorem gIf {D : zD} {k j a : Nat} {x : Int32} (h : a ≠ k) : gI (sI D k j x) a = gI D a := funext fun _ => gI_na h
theorem gIz {D : zD} {k n a b : Nat} {v : Int32} (h : a ≠ k) : gI (zfill D k n v) a b = gI D a b := if_neg fun q => h q.1
theorem gIz_eq {D : zD} {k n b : Nat} {v : Int32} (h : b < n) : gI (zfill D k n v) k b = v := if_pos ⟨rfl, h⟩
