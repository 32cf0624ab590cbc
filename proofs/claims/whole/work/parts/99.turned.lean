/-! THE MATHEMATICS: a sign mirrored, a sign turned by half -/
def sTur (W h v : Nat) (x : Int32) (m : Nat) : Int32 := zfo (fun i acc => if bt x i = true then acc ||| bit1 (W * (if v = 5 then h - 1 - i / W else i / W) + (W - 1 - i % W)) else acc) m 0 0
section M99
variable {D : zD} {W h a : Nat}
theorem sTur_next {v : Nat} {x : Int32} (m : Nat) : sTur W h v x (m + 1) = if bt x m = true then sTur W h v x m ||| bit1 (W * (if v = 5 then h - 1 - m / W else m / W) + (W - 1 - m % W)) else sTur W h v x m := by
  unfold sTur
  rw [zfo_last, Nat.zero_add]
theorem c_mirrored (h0 : gI D a 0 = nI W) (h1 : gI D a 1 = nI h) (hW : 2 ≤ W ∧ W ≤ 6) (hh : h ≤ 5) (x : Int32) : fn_X0_mirrored a x D = some (sTur W h 6 x (W * h)) := by
  have h30 := wh_le hW.2 hh
  unfold fn_X0_mirrored
  refine zok.eq (z_inv h (fun n y (acc : Int32) => fn_X0_mirrored_4 a x D n acc (nI y)) (fun y acc => acc = sTur W h 6 x (W * y)) _ ?_ ?_ 0 zFU (0 : Int32) (Nat.zero_le _) (zfu_gt (by omega)) (by rw [Nat.mul_zero]; rfl))
  · intro n y acc hy hacc ih
    show zok (fn_X0_mirrored_4 a x D (n + 1) acc (nI y)) _
    rw [fn_X0_mirrored_4, h1, if_neg (nI_ge hy (by omega))]
    refine z_inv W (fun m c (acc : Int32) => fn_X0_mirrored_15 a x D (fn_X0_mirrored_4 a x D n) m acc (nI y) (nI c)) (fun c acc => acc = sTur W h 6 x (W * y + c)) _ ?_ ?_ 0 zFU acc (Nat.zero_le _) (zfu_gt (by omega)) hacc
    · intro m c acc hc hacc ih2
      show zok (fn_X0_mirrored_15 a x D (fn_X0_mirrored_4 a x D n) (m + 1) acc (nI y) (nI c)) _
      have hyl : W * (y + 1) ≤ W * h := Nat.mul_le_mul_left _ hy
      rw [Nat.mul_add, Nat.mul_one] at hyl
      have hmod : (W * y + c) % W = c := by rw [Nat.mul_add_mod, Nat.mod_eq_of_lt hc]
      have hdiv : (W * y + c) / W = y := by rw [Nat.mul_add_div (by omega), Nat.div_eq_of_lt hc, Nat.add_zero]
      have nx := sTur_next (W := W) (h := h) (v := 6) (x := x) (W * y + c)
      rw [hmod, hdiv, if_neg (show ¬ (6 : Nat) = 5 by decide)] at nx
      have j0 := bt_0 x (W * y + c) (by omega)
      rw [fn_X0_mirrored_15, h0, if_neg (nI_ge hc (by omega)), pk_mul, nI_add, nI_add, nI_1, nS1 _ (by omega), nSn _ _ (by omega), bit1_u, zlet_eq]
      by_cases q : bt x (W * y + c) = true
      · rw [if_neg (fun e => by rw [j0.mp e] at q; cases q)]
        refine ih2 _ ?_
        rw [hacc, ← Nat.add_assoc, nx, if_pos q, show W * y + W - 1 - c = W * y + (W - 1 - c) by omega]
      · rw [if_pos (j0.mpr (by cases e : bt x (W * y + c); rfl; exact absurd e q))]
        refine ih2 _ ?_
        rw [hacc, ← Nat.add_assoc, nx, if_neg q]
    · intro m acc hacc
      show zok (fn_X0_mirrored_15 a x D (fn_X0_mirrored_4 a x D n) (m + 1) acc (nI y) (nI W)) _
      rw [fn_X0_mirrored_15, h0, if_pos (nI_le (Nat.le_refl _) (by omega)), nI_1]
      exact ih _ (by rw [hacc, Nat.mul_add, Nat.mul_one])
  · intro n acc hacc
    show zok (fn_X0_mirrored_4 a x D (n + 1) acc (nI h)) _
    rw [fn_X0_mirrored_4, h1, if_pos (nI_le (Nat.le_refl _) (by omega)), zok_some, hacc]
theorem half_cell {W h i : Nat} (hW : 2 ≤ W) (hi : i < W * h) : W * (h - 1 - i / W) + (W - 1 - i % W) = W * h - 1 - i := by
  have h1 := Nat.div_add_mod i W
  have h2 := Nat.mod_lt i (show 0 < W by omega)
  have h3 : i / W < h := by
    rw [Nat.div_lt_iff_lt_mul (by omega), Nat.mul_comm]; exact hi
  have h4 : W * (h - 1 - i / W) = W * h - W - W * (i / W) := by
    rw [Nat.sub_sub, Nat.mul_sub, Nat.mul_add, Nat.mul_one, Nat.sub_sub]
  have h5 : W * (i / W + 1) ≤ W * h := Nat.mul_le_mul_left _ h3
  rw [Nat.mul_add, Nat.mul_one] at h5
  omega
theorem c_half (h0 : gI D a 0 = nI W) (h1 : gI D a 1 = nI h) (hW : 2 ≤ W ∧ W ≤ 6) (hh : 2 ≤ h ∧ h ≤ 5) (x : Int32) : fn_X0_halfTurned a x D = some (sTur W h 5 x (W * h)) := by
  have h30 := wh_le hW.2 hh.2
  have h4 := cpos hW.1 hh.1
  unfold fn_X0_halfTurned fn_X0_cells
  rw [h0, h1, Option.bind_some, pk_mul, zlet_eq, nS1 _ (by omega)]
  refine zok.eq (z_inv (W * h) (fun n i (acc : Int32) => fn_X0_halfTurned_12 a x D n acc (nI (W * h - 1)) (nI i)) (fun i acc => acc = sTur W h 5 x i) _ ?_ ?_ 0 zFU (0 : Int32) (Nat.zero_le _) (zfu_gt (by omega)) rfl)
  · intro n i acc hi hacc ih
    show zok (fn_X0_halfTurned_12 a x D (n + 1) acc (nI (W * h - 1)) (nI i)) _
    have nx := sTur_next (W := W) (h := h) (v := 5) (x := x) i
    rw [if_pos rfl, half_cell hW.1 hi] at nx
    have j0 := bt_0 x i (by omega)
    rw [fn_X0_halfTurned_12, if_neg (show ¬ nI (W * h - 1) < nI i by rw [nLt _ _ (by omega) (by omega)]; omega), nSn _ _ (by omega), bit1_u, zlet_eq, nI_1]
    by_cases q : bt x i = true
    · rw [if_neg (fun e => by rw [j0.mp e] at q; cases q)]
      exact ih _ (by rw [hacc, nx, if_pos q])
    · rw [if_pos (j0.mpr (by cases e : bt x i; rfl; exact absurd e q))]
      exact ih _ (by rw [hacc, nx, if_neg q])
  · intro n acc hacc
    show zok (fn_X0_halfTurned_12 a x D (n + 1) acc (nI (W * h - 1)) (nI (W * h))) _
    rw [fn_X0_halfTurned_12, if_pos (show nI (W * h - 1) < nI (W * h) by rw [nLt _ _ (by omega) (by omega)]; omega), zok_some, hacc]
end M99
