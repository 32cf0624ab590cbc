/-! THE MATHEMATICS: a new sign, the reference -/
section M9a
variable {D : zD} {W h ns : Nat}
def rNew (D : zD) (ns : Nat) (x : Int32) : zD := sI (sI (sI D 104 ns x) 106 ns (-1)) 102 12 (nI (ns + 1))
theorem r_put (h12 : gI D 102 12 = nI ns) (hn : ns < 12) (v x : Int32) : fn_X12_readsSign_136 v x D = some (rNew D ns x) := by
  unfold fn_X12_readsSign_136
  rw [h12, zck_nI hn (by omega), nI_clamp (by omega), zlet_eq, gI_na (by omega), h12, zck_nI hn (by omega), nI_clamp (by omega), zlet_eq, gI_na (by omega), gI_na (by omega), h12, nI_1, zlet_eq]
  rfl
theorem r_signNew (h10 : gI D 102 10 = nI W) (h11 : gI D 102 11 = nI h) (h12 : gI D 102 12 = nI ns) (hn : ns < 12) (hW : 2 ≤ W ∧ W ≤ 6) (hh : 2 ≤ h ∧ h ≤ 5) : fn_X12_readsSign_34 1 zFU 0 0 0 D = some (rNew D ns 0) := by
  have h4 := cpos hW.1 hh.1
  have h30 := wh_le hW.2 hh.2
  show fn_X12_readsSign_34 1 (4294967295 + 1) 0 0 (nI 0) D = _
  rw [fn_X12_readsSign_34, h10, h11, pk_mul, if_neg (nI_ge (by omega) (by omega)), if_pos rfl, r_put h12 hn]
theorem r_turn (h10 : gI D 102 10 = nI W) (h11 : gI D 102 11 = nI h) (h12 : gI D 102 12 = nI ns) (hn : ns < 12) (hW : 2 ≤ W ∧ W ≤ 6) (hh : 2 ≤ h ∧ h ≤ 5) {v s : Nat} (hv : v = 5 ∨ v = 6) (hs : s < 12) : fn_X12_readsSign_34 (nI v) zFU (nI s) 0 0 D = some (rNew D ns (sTur W h v (gI D 104 s) (W * h))) := by
  have h4 := cpos hW.1 hh.1
  have h30 := wh_le hW.2 hh.2
  refine zok.eq (z_inv (W * h) (fun n i (acc : Int32) => fn_X12_readsSign_34 (nI v) n (nI s) acc (nI i) D) (fun i acc => acc = sTur W h v (gI D 104 s) i) _ ?_ ?_ 0 zFU (0 : Int32) (Nat.zero_le _) (zfu_gt (by omega)) rfl)
  · intro n i acc hi hacc ih
    show zok (fn_X12_readsSign_34 (nI v) (n + 1) (nI s) acc (nI i) D) _
    have nx := sTur_next (W := W) (h := h) (v := v) (x := gI D 104 s) i
    have j0 := bt_1 (gI D 104 s) i (by omega)
    have m1 := Nat.mod_lt i (show 0 < W by omega)
    have m2 : i / W < h := by rw [Nat.div_lt_iff_lt_mul (by omega), Nat.mul_comm]; exact hi
    have step : ∀ w, w < h → w = (if v = 5 then h - 1 - i / W else i / W) → zok (fn_X12_readsSign_98 (nI v) (fn_X12_readsSign_34 (nI v) n) (nI s) acc (nI i) (nI (W - 1 - i % W)) (nI w) D) fun x => x = rNew D ns (sTur W h v (gI D 104 s) (W * h)) := fun w hw he => by
      unfold fn_X12_readsSign_98
      rw [zck_nI hs (by omega), nI_clamp (by omega), h10, pk_mul, nI_add, bit1_u, nI_1, zlet_eq]
      by_cases q : bt (gI D 104 s) i = true
      · rw [if_pos (j0.mpr q)]
        exact ih _ (by rw [hacc, nx, if_pos q, he])
      · rw [if_neg (fun e => q (j0.mp e))]
        exact ih _ (by rw [hacc, nx, if_neg q])
    rw [fn_X12_readsSign_34, h10, h11, pk_mul, if_neg (nI_ge hi (by omega)), if_neg (show ¬ nI v = 1 by rw [nEq1 _ (by omega)]; omega), zdv_nI (by omega) (by omega), nRn _ _ (by omega) (by omega) (by omega), nDn _ _ (by omega) (by omega) (by omega), nS1 _ (by omega), nSn _ _ (by omega), nS1 _ (by omega), zlet_eq]
    rcases hv with rfl | rfl
    · rw [if_pos (show nI 5 = (5 : Int32) from rfl), zdv_nI (by omega) (by omega), nSn _ _ (by omega)]
      exact step _ (Nat.lt_of_le_of_lt (Nat.sub_le _ _) (by omega)) (if_pos rfl).symm
    · rw [if_neg (show ¬ nI 6 = (5 : Int32) by decide), zdv_nI (by omega) (by omega)]
      exact step _ m2 (if_neg (by decide)).symm
  · intro n acc hacc
    show zok (fn_X12_readsSign_34 (nI v) (n + 1) (nI s) acc (nI (W * h)) D) _
    rw [fn_X12_readsSign_34, h10, h11, pk_mul, if_pos (nI_le (Nat.le_refl _) (by omega)), r_put h12 hn, zok_some, hacc]
end M9a
