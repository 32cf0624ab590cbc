/-! THE MATHEMATICS: paint stays on the board -/
section M9e
variable {W h col row : Nat} {dn : Bool}
theorem bit1_un {k c : Nat} (hk : k < c) (hc : c ≤ 30) : un (bit1 k) < 2 ^ c := by
  have h1 : 2 ^ k < 2 ^ c := Nat.pow_lt_pow_right (by decide) hk
  have h2 : 2 ^ c ≤ 2 ^ 30 := Nat.pow_le_pow_right (by decide) hc
  rw [bit1_eq k (by omega), un_nI (by omega)]
  exact h1
theorem sStk_un {c : Nat} {acc : Int32} (hc : c ≤ 30) (ha : un acc < 2 ^ c) : ∀ m, (∀ i, i < m → stB W col row dn i < c) → un (sStk W col row dn acc m) < 2 ^ c
  | 0, _ => ha
  | m + 1, h => by
    rw [sStk_next]
    exact un_or (by omega) (sStk_un hc ha m fun i hi => h i (by omega)) (bit1_un (h m (by omega)) hc)
theorem stB_lt {len : Nat} (hcol : col < W) (hrow : row < h) (hl : if dn = true then row + len ≤ h else col + len ≤ W) {i : Nat} (hi : i < len) : stB W col row dn i < W * h := by
  unfold stB
  cases dn
  · rw [if_neg (by decide)] at hl
    rw [if_neg (by decide)]
    have h1 : W * (row + 1) ≤ W * h := Nat.mul_le_mul_left _ hrow
    rw [Nat.mul_add, Nat.mul_one] at h1
    omega
  · rw [if_pos rfl] at hl
    rw [if_pos rfl]
    have h1 : W * (row + i + 1) ≤ W * h := Nat.mul_le_mul_left _ (by omega)
    rw [Nat.mul_add, Nat.mul_one] at h1
    omega
theorem sTur_un {v : Nat} {x : Int32} (hW : 2 ≤ W) (hc : W * h ≤ 30) : ∀ m, m ≤ W * h → un (sTur W h v x m) < 2 ^ (W * h)
  | 0, _ => by
    show un 0 < 2 ^ (W * h)
    exact Nat.two_pow_pos _
  | m + 1, hm => by
    have ih := sTur_un (v := v) (x := x) hW hc m (by omega)
    rw [sTur_next]
    by_cases q : bt x m = true
    · rw [if_pos q]
      refine un_or (by omega) ih (bit1_un ?_ hc)
      by_cases g : v = 5
      · rw [if_pos g, half_cell hW (by omega)]; omega
      · rw [if_neg g]
        have h3 : m / W < h := by rw [Nat.div_lt_iff_lt_mul (by omega), Nat.mul_comm]; omega
        have h5 : W * (m / W + 1) ≤ W * h := Nat.mul_le_mul_left _ h3
        rw [Nat.mul_add, Nat.mul_one] at h5
        omega
    · rw [if_neg q]; exact ih
end M9e
