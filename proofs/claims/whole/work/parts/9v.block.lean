/-! THE MATHEMATICS: blocks of cells, both -/
def blk (W x y w h : Nat) : Int32 := zfo (fun r acc => acc ||| (nI (2 ^ w - 1) <<< (nI (W * (y + r) + x) &&& 31))) h 0 0
def rbl (W x y w h : Nat) : Int32 := zfo (fun i acc => zfo (fun j acc => acc ||| bit1 (W * (y + j) + (x + i))) h 0 acc) w 0 0
def inB (W x y w h i : Nat) : Bool := decide (x ≤ i % W ∧ i % W < x + w ∧ y ≤ i / W ∧ i / W < y + h)
section M9v
variable {D : zD} {W H x y w h a : Nat}
theorem wm_lt {b : Nat} (hW : W ≤ 6) (hH : H ≤ 5) {r c : Nat} (hr : r < H) (hc : c < W) : W * r + c < W * H := by
  have := Nat.mul_le_mul_left W (show r + 1 ≤ H by omega)
  rw [Nat.mul_add, Nat.mul_one] at this
  omega
theorem wm_div {r c i : Nat} (hc : c < W) : W * r + c = i ↔ i / W = r ∧ i % W = c := by
  have h1 := Nat.div_add_mod i W
  constructor
  · intro e
    subst e
    refine ⟨?_, ?_⟩
    · rw [Nat.mul_add_div (by omega), Nat.div_eq_of_lt hc, Nat.add_zero]
    · rw [Nat.mul_add_mod, Nat.mod_eq_of_lt hc]
  · rintro ⟨e1, e2⟩
    rw [← e1, ← e2]
    exact h1
theorem bt_blk (hW : W ≤ 6) (hH : H ≤ 5) (hx : x + w ≤ W) {i : Nat} (hi : i < 32) : ∀ h, y + h ≤ H → bt (blk W x y w h) i = inB W x y w h i
  | 0, _ => by
    unfold inB
    rw [show blk W x y w 0 = 0 from rfl, b_0, decide_eq_false (by omega)]
  | h + 1, hy => by
    have h30 := wh_le hW hH
    have nx : blk W x y w (h + 1) = blk W x y w h ||| (nI (2 ^ w - 1) <<< (nI (W * (y + h) + x) &&& 31)) := by
      unfold blk
      rw [zfo_last, Nat.zero_add]
    by_cases w0 : w = 0
    · subst w0
      have z : ∀ m, blk W x y 0 m = 0 := by
        intro m
        induction m with
        | zero => rfl
        | succ m ih =>
          unfold blk at ih ⊢
          rw [zfo_last, ih]
          apply b_ext
          intro j hj
          rw [b_or, b_0]
          have : (nI (2 ^ 0 - 1) : Int32) = 0 := rfl
          rw [this]
          simp only [Int32.zero_shiftLeft, b_0, Bool.or_self]
      rw [z, b_0]
      unfold inB
      rw [decide_eq_false (by omega)]
    have hk : W * (y + h) + x < W * H := wm_lt (b := 0) hW hH (by omega) (by omega)
    rw [nx, b_or, bt_blk hW hH hx hi h (by omega), b_shl _ (by omega) _ hi, bt_bd (by omega)]
    have hd := Nat.div_add_mod i W
    have hm := Nat.mod_lt i (show 0 < W by omega)
    have key : (W * (y + h) + x ≤ i ∧ i - (W * (y + h) + x) < w) ↔ (i / W = y + h ∧ x ≤ i % W ∧ i % W < x + w) := by
      constructor
      · rintro ⟨k1, k2⟩
        have := (wm_div (W := W) (r := y + h) (c := i - W * (y + h)) (i := i) (by omega)).mp (by omega)
        refine ⟨this.1, by omega, by omega⟩
      · rintro ⟨k1, k2, k3⟩
        have := (wm_div (W := W) (r := y + h) (c := i % W) (i := i) (by omega)).mpr ⟨k1, rfl⟩
        omega
    unfold inB
    rw [← Bool.decide_and, ← Bool.decide_or]
    apply decide_eq_decide.mpr
    rw [key]
    omega
theorem bt_rcol (hW : W ≤ 6) (hH : H ≤ 5) {acc : Int32} {c i : Nat} (hc : c < W) (hi : i < 32) : ∀ h, y + h ≤ H → bt (zfo (fun j acc => acc ||| bit1 (W * (y + j) + c)) h 0 acc) i = (bt acc i || decide (i % W = c ∧ y ≤ i / W ∧ i / W < y + h))
  | 0, _ => by
    rw [decide_eq_false (by omega), Bool.or_false]
    rfl
  | h + 1, hy => by
    have h30 := wh_le hW hH
    have hk : W * (y + h) + c < W * H := wm_lt (b := 0) hW hH (by omega) hc
    rw [zfo_last, Nat.zero_add, b_or, bt_rcol hW hH hc hi h (by omega), bt_bit1 _ (by omega) _ hi, Bool.or_assoc, ← Bool.decide_or]
    congr 1
    apply decide_eq_decide.mpr
    have := wm_div (W := W) (r := y + h) (c := c) (i := i) hc
    constructor
    · rintro (⟨k1, k2, k3⟩ | k)
      · exact ⟨k1, k2, by omega⟩
      · obtain ⟨k1, k2⟩ := this.mp k.symm
        exact ⟨k2, by omega, by omega⟩
    · rintro ⟨k1, k2, k3⟩
      by_cases q : i / W = y + h
      · exact Or.inr (this.mpr ⟨q, k1⟩).symm
      · exact Or.inl ⟨k1, k2, by omega⟩
theorem bt_rbl (hW : W ≤ 6) (hH : H ≤ 5) (hy : y + h ≤ H) {i : Nat} (hi : i < 32) : ∀ w, x + w ≤ W → bt (rbl W x y w h) i = inB W x y w h i
  | 0, _ => by
    unfold inB
    rw [show rbl W x y 0 h = 0 from rfl, b_0, decide_eq_false (by omega)]
  | w + 1, hx => by
    have nx : rbl W x y (w + 1) h = zfo (fun j acc => acc ||| bit1 (W * (y + j) + (x + w))) h 0 (rbl W x y w h) := by
      unfold rbl
      rw [zfo_last, Nat.zero_add]
    rw [nx, bt_rcol hW hH (by omega) hi h hy, bt_rbl hW hH hy hi w (by omega)]
    unfold inB
    rw [← Bool.decide_or]
    apply decide_eq_decide.mpr
    omega
theorem rbl_eq (hW : W ≤ 6) (hH : H ≤ 5) (hx : x + w ≤ W) (hy : y + h ≤ H) : rbl W x y w h = blk W x y w h :=
  b_ext fun i hi => by rw [bt_rbl hW hH hy hi w hx, bt_blk hW hH hx hi h hy]
theorem blk_un (hW : W ≤ 6) (hH : H ≤ 5) (hx : x + w ≤ W) (hy : y + h ≤ H) : un (blk W x y w h) < 2 ^ (W * H) := by
  have h30 := wh_le hW hH
  rw [un_iff (by omega)]
  intro i h1 h2
  rw [bt_blk hW hH hx h2 h hy]
  unfold inB
  rw [decide_eq_false]
  rintro ⟨k1, k2, k3, k4⟩
  have := wm_lt (b := 0) (W := W) (H := H) hW hH (r := i / W) (c := i % W) (by omega) (by omega)
  have := Nat.div_add_mod i W
  omega
theorem c_blkX (h4 : gI D 22 4 = nI W) (hW : W ≤ 6) (hx : x ≤ 6) (hy : y ≤ 6) (hw : w ≤ 6) (hh : h ≤ 6) : fn_X7_block (nI x) (nI y) (nI w) (nI h) D = some (blk W x y w h) := by
  unfold fn_X7_block
  have hm : ∀ r, r ≤ 12 → W * r ≤ 6 * 12 := fun r hr => Nat.mul_le_mul hW hr
  refine zok.eq (z_inv h (fun n r (acc : Int32) => fn_X7_block_6 (nI x) (nI y) (nI w) (nI h) D n acc (nI (y + r))) (fun r acc => acc = blk W x y w r) _ ?_ ?_ 0 zFU (0 : Int32) (Nat.zero_le _) (zfu_gt (by omega)) rfl)
  · intro n r acc hr hacc ih
    show zok (fn_X7_block_6 (nI x) (nI y) (nI w) (nI h) D (n + 1) acc (nI (y + r))) _
    have nx : blk W x y w (r + 1) = blk W x y w r ||| (nI (2 ^ w - 1) <<< (nI (W * (y + r) + x) &&& 31)) := by
      unfold blk
      rw [zfo_last, Nat.zero_add]
    rw [fn_X7_block_6, nI_add, if_neg (nI_ge (by omega) (by omega)), bd_eq _ (by omega), h4, pk_mul, nI_add, zlet_eq, nI_1, Nat.add_assoc]
    exact ih _ (by rw [nx, hacc])
  · intro n acc hacc
    show zok (fn_X7_block_6 (nI x) (nI y) (nI w) (nI h) D (n + 1) acc (nI (y + h))) _
    rw [fn_X7_block_6, nI_add, if_pos (nI_le (Nat.le_refl _) (by omega)), zok_some, hacc]
theorem r_blkX (h4 : gI D 102 14 = nI W) (hx : x ≤ 6) (hy : y ≤ 6) (hw : w ≤ 6) (hh : h ≤ 6) : fn_X12_block (nI x) (nI y) (nI w) (nI h) D = some (rbl W x y w h) := by
  unfold fn_X12_block
  refine zok.eq (z_inv w (fun n i (acc : Int32) => fn_X12_block_6 (nI x) (nI y) (nI w) (nI h) D n acc (nI (x + i))) (fun i acc => acc = rbl W x y i h) _ ?_ ?_ 0 zFU (0 : Int32) (Nat.zero_le _) (zfu_gt (by omega)) rfl)
  · intro n i acc hi hacc ih
    show zok (fn_X12_block_6 (nI x) (nI y) (nI w) (nI h) D (n + 1) acc (nI (x + i))) _
    have nx : rbl W x y (i + 1) h = zfo (fun j acc => acc ||| bit1 (W * (y + j) + (x + i))) h 0 (rbl W x y i h) := by
      unfold rbl
      rw [zfo_last, Nat.zero_add]
    rw [fn_X12_block_6, nI_add, if_neg (nI_ge (by omega) (by omega))]
    refine z_inv h (fun m j (acc : Int32) => fn_X12_block_17 (nI x) (nI y) (nI w) (nI h) D (fn_X12_block_6 (nI x) (nI y) (nI w) (nI h) D n) m acc (nI (x + i)) (nI (y + j))) (fun j acc => acc = zfo (fun j acc => acc ||| bit1 (W * (y + j) + (x + i))) j 0 (rbl W x y i h)) _ ?_ ?_ 0 zFU acc (Nat.zero_le _) (zfu_gt (by omega)) hacc
    · intro m j acc hj hacc ih2
      show zok (fn_X12_block_17 (nI x) (nI y) (nI w) (nI h) D (fn_X12_block_6 (nI x) (nI y) (nI w) (nI h) D n) (m + 1) acc (nI (x + i)) (nI (y + j))) _
      rw [fn_X12_block_17, nI_add, if_neg (nI_ge (by omega) (by omega)), h4, pk_mul, nI_add, bit1_u, zlet_eq, nI_1, Nat.add_assoc]
      exact ih2 _ (by rw [zfo_last, Nat.zero_add, hacc])
    · intro m acc hacc
      show zok (fn_X12_block_17 (nI x) (nI y) (nI w) (nI h) D (fn_X12_block_6 (nI x) (nI y) (nI w) (nI h) D n) (m + 1) acc (nI (x + i)) (nI (y + h))) _
      rw [fn_X12_block_17, nI_add, if_pos (nI_le (Nat.le_refl _) (by omega)), nI_1, Nat.add_assoc]
      exact ih _ (by rw [nx, hacc])
  · intro n acc hacc
    show zok (fn_X12_block_6 (nI x) (nI y) (nI w) (nI h) D (n + 1) acc (nI (x + w))) _
    rw [fn_X12_block_6, nI_add, if_pos (nI_le (Nat.le_refl _) (by omega)), zok_some, hacc]
/-- one cover alone -/
def zst (fl : Int32) : Option (List Int32) := if fl = 0 then some [] else none
theorem c_beOne (hf : gI D 22 6 = 0 ∨ gI D 22 6 = 1) (ha : 27 ≤ a) (v : Int32) : zok ((fn_X3_beOne a v D).bind fun E => some ((1 : Int32), E)) fun q => q.1 = 1 ∧ cV a (stp (zst (gI D 22 6)) v) q.2 ∧ ag (fun b c => ¬ (b = a ∧ c = 1) ∧ b ≠ a + 1) D q.2 := by
  unfold fn_X3_beOne
  rw [zlet_eq, zlet_eq, Option.bind_some, zok_some]
  refine ⟨rfl, ?_, (ag.refl.sI (by omega)).sI (by omega)⟩
  unfold zst
  have e22 : gI (sI (sI D (a + 1) 0 v) a 1 1) 22 6 = gI D 22 6 := by rw [gI_na (by omega), gI_na (by omega)]
  rcases hf with hf | hf
  · rw [if_pos hf, stp_new (by simp) (by simp)]
    refine ⟨e22.trans hf, by simp, gI_eq, fun i hi => ?_⟩
    replace hi : i < 1 := hi
    have : i = 0 := by omega
    subst this
    show gI (sI (sI D (a + 1) 0 v) a 1 1) (a + 1) 0 = v
    rw [gI_na (by omega), gI_eq]
  · rw [if_neg (by rw [hf]; decide)]
    exact ⟨e22.trans hf, 1, by omega, gI_eq⟩
end M9v
