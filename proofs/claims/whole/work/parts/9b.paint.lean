/-! THE MATHEMATICS: strokes of paint -/
def stB (W col row : Nat) (dn : Bool) (i : Nat) : Nat := if dn = true then W * (row + i) + col else W * row + col + i
def sStk (W col row : Nat) (dn : Bool) (acc : Int32) (m : Nat) : Int32 := zfo (fun i a => a ||| bit1 (stB W col row dn i)) m 0 acc
section M9b
variable {D : zD} {W h ns col row len : Nat} {dn : Bool}
theorem sStk_next {acc : Int32} (m : Nat) : sStk W col row dn acc (m + 1) = sStk W col row dn acc m ||| bit1 (stB W col row dn m) := by
  unfold sStk
  rw [zfo_last, Nat.zero_add]
theorem c_setLatest (h2 : gI D 12 2 = nI ns) (hn : 1 ≤ ns ∧ ns ≤ 12) (x : Int32) : fn_X0_setLatest 12 x D = some (sI D 13 (ns - 1) x) := by
  unfold fn_X0_setLatest fn_X0_has
  rw [h2, nS1 _ hn.1, if_neg (nI_pos (by omega)), if_neg (nI_ge (by omega) (by omega)), if_neg (show ¬ (12 : Int32) ≤ nI (ns - 1) from nI_ge (b := 12) (by omega) (by omega)), Option.bind_some, if_neg (by decide), zck_nI (by omega) (by omega), nI_clamp (by omega), zlet_eq]
theorem c_stroke114 (h0 : gI D 12 0 = nI W) (h2 : gI D 12 2 = nI ns) (hn : 1 ≤ ns ∧ ns ≤ 12) (hl : len < 100) (acc : Int32) : fn_X1_stroke_114 (if dn = true then 0 else 1) zFU (nI col) (nI row) (nI len) acc 0 D = some (1, sI D 13 (ns - 1) (sStk W col row dn acc len)) := by
  refine zok.eq (z_inv len (fun n i (a : Int32) => fn_X1_stroke_114 (if dn = true then 0 else 1) n (nI col) (nI row) (nI len) a (nI i) D) (fun i a => a = sStk W col row dn acc i) _ ?_ ?_ 0 zFU acc (Nat.zero_le _) (zfu_gt (by omega)) rfl)
  · intro n i a hi ha ih
    show zok (fn_X1_stroke_114 (if dn = true then 0 else 1) (n + 1) (nI col) (nI row) (nI len) a (nI i) D) _
    have nx := sStk_next (W := W) (col := col) (row := row) (dn := dn) (acc := acc) i
    rw [fn_X1_stroke_114, if_neg (nI_ge hi (by omega)), h0]
    cases dn
    · rw [if_neg (show ¬ (if false = true then (0 : Int32) else 1) = 0 by decide), pk_mul, nI_add, nI_add, bit1_u, zlet_eq, nI_1]
      exact ih _ (by rw [nx, ha]; rfl)
    · rw [if_pos (show (if true = true then (0 : Int32) else 1) = 0 by decide), nI_add, pk_mul, nI_add, bit1_u, zlet_eq, nI_1]
      exact ih _ (by rw [nx, ha]; rfl)
  · intro n a ha
    show zok (fn_X1_stroke_114 (if dn = true then 0 else 1) (n + 1) (nI col) (nI row) (nI len) a (nI len) D) _
    rw [fn_X1_stroke_114, if_pos (nI_le (Nat.le_refl _) (by omega)), c_setLatest h2 hn, Option.bind_some, zok_some, ha]
/-- the reference paints cell by cell -/
theorem r_stroke63 (h10 : gI D 102 10 = nI W) (h12 : gI D 102 12 = nI ns) (h5 : gI D 102 5 = 0) (hn : 1 ≤ ns ∧ ns ≤ 12) (hl : len < 100) : zok (fn_X12_readsStroke_63 (if dn = true then 3 else 2) zFU (nI col) (nI row) (nI len) 0 D) fun E => (∀ a b, gI E a b = if a = 104 ∧ b = ns - 1 then sStk W col row dn (gI D 104 (ns - 1)) len else gI D a b) ∧ E.1 = D.1 := by
  refine z_inv len (fun n i (E : zD) => fn_X12_readsStroke_63 (if dn = true then 3 else 2) n (nI col) (nI row) (nI len) (nI i) E) (fun i E => (∀ a b, gI E a b = if a = 104 ∧ b = ns - 1 then sStk W col row dn (gI D 104 (ns - 1)) i else gI D a b) ∧ E.1 = D.1) _ ?_ ?_ 0 zFU D (Nat.zero_le _) (zfu_gt (by omega)) ⟨fun a b => by
    by_cases q : a = 104 ∧ b = ns - 1
    · rw [if_pos q, q.1, q.2]; rfl
    · rw [if_neg q], rfl⟩
  · intro n i E hi ⟨g1, g2⟩ ih
    show zok (fn_X12_readsStroke_63 (if dn = true then 3 else 2) (n + 1) (nI col) (nI row) (nI len) (nI i) E) _
    have nx := sStk_next (W := W) (col := col) (row := row) (dn := dn) (acc := gI D 104 (ns - 1)) i
    have q5 : gI E 102 5 = 0 := by rw [g1, if_neg (by omega)]; exact h5
    have q10 : gI E 102 10 = nI W := by rw [g1, if_neg (by omega)]; exact h10
    have q12 : gI E 102 12 = nI ns := by rw [g1, if_neg (by omega)]; exact h12
    have q104 : gI E 104 (ns - 1) = sStk W col row dn (gI D 104 (ns - 1)) i := by rw [g1, if_pos ⟨rfl, rfl⟩]
    have fin : ∀ v1, v1 ≠ 4 → zok (fn_X12_readsStroke_108 v1 (fn_X12_readsStroke_63 (if dn = true then 3 else 2) n) (nI col) (nI row) (nI len) (nI i) 1 (nI (stB W col row dn i)) E) fun E => (∀ a b, gI E a b = if a = 104 ∧ b = ns - 1 then sStk W col row dn (gI D 104 (ns - 1)) len else gI D a b) ∧ E.1 = D.1 := by
      intro v1 hv
      unfold fn_X12_readsStroke_108
      rw [zlet_eq, if_neg hv, q12, nS1 _ hn.1, zck_nI (by omega) (by omega), zck_nI (by omega) (by omega), nI_clamp (by omega), q104, bit1_u, nI_1, zlet_eq]
      refine ih _ ⟨fun a b => ?_, g2⟩
      by_cases q : a = 104 ∧ b = ns - 1
      · rw [if_pos q, q.1, q.2, gI_eq, nx]
      · rw [if_neg q]
        have : gI (sI E 104 (ns - 1) (sStk W col row dn (gI D 104 (ns - 1)) i ||| bit1 (stB W col row dn i))) a b = gI E a b := if_neg q
        rw [this, g1, if_neg q]
    rw [fn_X12_readsStroke_63, if_neg (nI_ge hi (by omega)), q5, if_pos rfl, q10]
    cases dn
    · rw [if_neg (show ¬ (if false = true then (3 : Int32) else 2) = 3 by decide), pk_mul, nI_add, nI_add]
      exact fin _ (by decide)
    · rw [if_pos (show (if true = true then (3 : Int32) else 2) = 3 by decide), nI_add, pk_mul, nI_add]
      exact fin _ (by decide)
  · intro n E hE
    show zok (fn_X12_readsStroke_63 (if dn = true then 3 else 2) (n + 1) (nI col) (nI row) (nI len) (nI len) E) _
    rw [fn_X12_readsStroke_63, if_pos (nI_le (Nat.le_refl _) (by omega)), zok_some]
    exact hE
theorem r_clean63 (h10 : gI D 102 10 = nI W) (h12 : gI D 102 12 = nI ns) (h5 : gI D 102 5 = 0) (hn : 1 ≤ ns ∧ ns ≤ 12) : fn_X12_readsStroke_63 4 zFU (nI col) (nI row) 1 0 D = some (sI D 104 (ns - 1) (gI D 104 (ns - 1) &&& (bit1 (W * row + col) ^^^ -1))) := by
  show fn_X12_readsStroke_63 4 (4294967294 + 1 + 1) (nI col) (nI row) (nI 1) (nI 0) D = _
  rw [fn_X12_readsStroke_63, if_neg (nI_ge (by omega) (by omega)), h5, if_pos rfl, if_neg (by decide), h10, pk_mul, nI_add, nI_add]
  unfold fn_X12_readsStroke_108
  rw [zlet_eq, if_pos rfl, h12, nS1 _ hn.1, zck_nI (by omega) (by omega), zck_nI (by omega) (by omega), nI_clamp (by omega), bit1_u, nI_1, zlet_eq, fn_X12_readsStroke_63, if_pos (nI_le (by omega) (by omega)), Nat.add_zero]
end M9b
