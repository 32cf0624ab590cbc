/-! THE MATHEMATICS: sorting, both -/
def ky (x : Int32) : Int := (pc x : Int) * 8589934592 + x.toInt
def cnt (f : Nat → Int32) (c : Nat) (y : Int32) : Nat := zfo (fun i a => if f i = y then a + 1 else a) c 0 0
def srt (f : Nat → Int32) (c : Nat) : Prop := ∀ i j, i ≤ j → j < c → ky (f i) ≤ ky (f j)
def updI (f : Nat → Int32) (i : Nat) (x : Int32) : Nat → Int32 := fun k => if k = i then x else f k
section M9ze
variable {D : zD} {f g : Nat → Int32} {c : Nat} {x y : Int32}
theorem ti_rng (x : Int32) : -2147483648 ≤ x.toInt ∧ x.toInt < 2147483648 := ⟨Int32.le_toInt x, Int32.toInt_lt x⟩
theorem ky_inj (e : ky x = ky y) : x = y := by
  unfold ky at e
  have h1 := ti_rng x
  have h2 := ti_rng y
  exact Int32.toInt_inj.mp (by omega)
theorem sub_33 : ∀ a, a ≤ 32 → ∀ b, b ≤ 32 → (nI a - nI b).toInt = (a : Int) - b := by
  have k : ∀ a : Fin 33, ∀ b : Fin 33, (nI a.val - nI b.val).toInt = (a.val : Int) - b.val := by decide +kernel
  exact fun a ha b hb => k ⟨a, by omega⟩ ⟨b, by omega⟩
theorem c_isBefore (x y : Int32) : fn_X3_isBefore x y = some (if ky x < ky y then 1 else 0) := by
  have h1 := ti_rng x
  have h2 := ti_rng y
  have p1 : pc x ≤ 32 := fb_ct_le _ _
  have p2 : pc y ≤ 32 := fb_ct_le _ _
  have hle : y ≤ x ↔ y.toInt ≤ x.toInt := fa_le y x
  have t : (nI (pc x) - nI (pc y)).toInt = (pc x : Int) - pc y := sub_33 _ p1 _ p2
  have e0 : nI (pc x) - nI (pc y) < 0 ↔ pc x < pc y := by
    rw [fa_lt, t, Int32.toInt_zero]; omega
  have e1 : nI (pc x) - nI (pc y) = 0 ↔ pc x = pc y := by
    rw [← Int32.toInt_inj, t, Int32.toInt_zero]; omega
  unfold fn_X3_isBefore
  rw [pc_bit, pc_bit, Option.bind_some, Option.bind_some, zlet_eq]
  unfold ky
  by_cases q : pc x < pc y
  · rw [if_pos (e0.mpr q), if_pos (by omega)]
  · rw [if_neg (fun r => q (e0.mp r))]
    by_cases q2 : pc x = pc y
    · rw [if_pos (e1.mpr q2)]
      by_cases q3 : y.toInt ≤ x.toInt
      · rw [if_pos (hle.mpr q3), if_neg (by omega)]
      · rw [if_neg (fun r => q3 (hle.mp r)), if_pos (by omega)]
    · rw [if_neg (fun r => q2 (e1.mp r)), if_neg (by omega)]
theorem r_isBehind (x y : Int32) : fn_X12_isBehind x y = some (if ky y < ky x then 1 else 0) := by
  have h1 := ti_rng x
  have h2 := ti_rng y
  have p1 : pc x ≤ 32 := fb_ct_le _ _
  have p2 : pc y ≤ 32 := fb_ct_le _ _
  have hle : x ≤ y ↔ x.toInt ≤ y.toInt := fa_le x y
  have e0 : nI (pc y) < nI (pc x) ↔ pc y < pc x := nLt _ _ (by omega) (by omega)
  have e1 : nI (pc x) = nI (pc y) ↔ pc x = pc y := nEq _ _ (by omega) (by omega)
  unfold fn_X12_isBehind
  rw [z_ones, z_ones, Option.bind_some, Option.bind_some]
  unfold ky
  by_cases q : pc y < pc x
  · rw [if_pos (e0.mpr q), if_pos (by omega)]
  · rw [if_neg (fun r => q (e0.mp r)), Option.bind_some, Option.bind_some]
    by_cases q2 : pc x = pc y
    · rw [if_pos (e1.mpr q2)]
      by_cases q3 : x.toInt ≤ y.toInt
      · rw [if_pos (hle.mpr q3), if_neg (by omega)]
      · rw [if_neg (fun r => q3 (hle.mp r)), if_pos (by omega)]
    · rw [if_neg (fun r => q2 (e1.mp r)), if_neg (by omega)]
theorem cnt_next (f : Nat → Int32) (c : Nat) (y : Int32) : cnt f (c + 1) y = if f c = y then cnt f c y + 1 else cnt f c y := by
  unfold cnt
  rw [zfo_last, Nat.zero_add]
theorem cnt_cong (h : ∀ i, i < c → f i = g i) : cnt f c y = cnt g c y := zfo_cong fun k s _ hk => by rw [h k (by omega)]
theorem cnt_upd {i : Nat} {x : Int32} (f : Nat → Int32) (y : Int32) : ∀ c, i < c → cnt (updI f i x) c y + (if f i = y then 1 else 0) = cnt f c y + (if x = y then 1 else 0)
  | 0, h => absurd h (Nat.not_lt_zero _)
  | c + 1, h => by
    rw [cnt_next, cnt_next]
    by_cases q : i = c
    · subst q
      rw [cnt_cong (f := updI f i x) (g := f) (c := i) (fun k hk => if_neg (by omega)), show updI f i x i = x from if_pos rfl]
      split <;> split <;> omega
    · have ih := cnt_upd f y c (show i < c by omega) (x := x)
      rw [show updI f i x c = f c from if_neg (by omega)]
      split <;> omega
theorem cnt_pos : ∀ c, 0 < cnt f c y → ∃ i, i < c ∧ f i = y
  | 0, h => absurd h (Nat.lt_irrefl _)
  | c + 1, h => by
    rw [cnt_next] at h
    by_cases q : f c = y
    · exact ⟨c, by omega, q⟩
    · rw [if_neg q] at h
      obtain ⟨i, h1, h2⟩ := cnt_pos c h
      exact ⟨i, by omega, h2⟩
theorem srt_uni : ∀ (c : Nat) {f g : Nat → Int32}, (∀ y, cnt f c y = cnt g c y) → srt f c → srt g c → ∀ i, i < c → f i = g i
  | 0, _, _, _, _, _, i, hi => absurd hi (Nat.not_lt_zero _)
  | c + 1, f, g, hc, hf, hg, i, hi => by
    have last : f c = g c := by
      have h1 : 0 < cnt g (c + 1) (f c) := by rw [← hc, cnt_next, if_pos rfl]; omega
      have h2 : 0 < cnt f (c + 1) (g c) := by rw [hc, cnt_next, if_pos rfl]; omega
      obtain ⟨a, a1, a2⟩ := cnt_pos _ h1
      obtain ⟨b, b1, b2⟩ := cnt_pos _ h2
      have h3 := hg a c (by omega) (by omega)
      have h4 := hf b c (by omega) (by omega)
      rw [a2] at h3
      rw [b2] at h4
      exact ky_inj (by omega)
    by_cases q : i = c
    · rw [q]; exact last
    · refine srt_uni c (fun y => ?_) (fun i j h1 h2 => hf i j h1 (by omega)) (fun i j h1 h2 => hg i j h1 (by omega)) i (by omega)
      have := hc y
      rw [cnt_next, cnt_next, last] at this
      split at this <;> omega
/-! the reference: neighbours change places -/
theorem upd2 {i : Nat} (f : Nat → Int32) (hc : i + 1 < c) : cnt (updI (updI f i (f (i + 1))) (i + 1) (f i)) c y = cnt f c y := by
  have h1 := cnt_upd (i := i) (x := f (i + 1)) f y c (by omega)
  have h2 := cnt_upd (i := i + 1) (x := f i) (updI f i (f (i + 1))) y c hc
  rw [show updI f i (f (i + 1)) (i + 1) = f (i + 1) from if_neg (by omega)] at h2
  omega
theorem r_swap {i : Nat} (hi : i + 1 < 500) : fn_X12_swapsCovers (nI i) D = some (sI (sI D 128 i (gI D 128 (i + 1))) 128 (i + 1) (gI D 128 i)) := by
  unfold fn_X12_swapsCovers
  rw [zck_nI (by omega) (by omega), nI_clamp (by omega), zlet_eq, nI_1, zck_nI (by omega) (by omega), zck_nI (by omega) (by omega), nI_clamp (by omega), zlet_eq, zck_nI (by omega) (by omega), zlet_eq]
def pB8 (a _b : Nat) : Prop := a ≠ 128
theorem r_bubble (v1 : Int32) {Q : Int32 × zD → Prop} (hc : 1 ≤ c ∧ c ≤ 500) (h26 : gI D 102 26 = nI c) (hQ : ∀ E, agL pB8 D E → srt (gI E 128) c → (∀ y, cnt (gI E 128) c y = cnt (gI D 128) c y) → Q (nI c, sI E 102 35 0)) : zok (fn_X12_rule_160 v1 zFU 0 D) Q := by
  have c26 : ∀ {E : zD}, agL pB8 D E → gI E 102 26 = nI c := fun g => by rw [g.1 _ _ (by unfold pB8; omega)]; exact h26
  refine z_inv c (fun m i (E : zD) => fn_X12_rule_160 v1 m (nI i) E) (fun i E => agL pB8 D E ∧ (∀ y, cnt (gI E 128) c y = cnt (gI D 128) c y) ∧ ∀ a b, a ≤ b → c - i ≤ b → b < c → ky (gI E 128 a) ≤ ky (gI E 128 b)) _ ?_ ?_ 0 zFU D (Nat.zero_le _) (zfu_gt (by omega)) ⟨agL.refl, fun y => rfl, fun a b h1 h2 h3 => by omega⟩
  · intro m i E hi ⟨e1, e2, e3⟩ ih
    show zok (fn_X12_rule_160 v1 (m + 1) (nI i) E) _
    rw [fn_X12_rule_160, c26 e1, if_neg (nI_ge hi (by omega))]
    refine z_inv (c - 1) (fun m' j (E : zD) => fn_X12_rule_170 v1 (fn_X12_rule_160 v1 m) m' (nI i) (nI j) E) (fun j E => agL pB8 D E ∧ (∀ y, cnt (gI E 128) c y = cnt (gI D 128) c y) ∧ (∀ a b, a ≤ b → c - i ≤ b → b < c → ky (gI E 128 a) ≤ ky (gI E 128 b)) ∧ ∀ a b, a ≤ b → (b = j ∨ (c - i - 1 ≤ b ∧ b ≤ j)) → ky (gI E 128 a) ≤ ky (gI E 128 b)) _ ?_ ?_ 0 zFU E (Nat.zero_le _) (zfu_gt (by omega)) ⟨e1, e2, e3, fun a b h1 h2 => by rw [show a = b by omega]; exact Int.le_refl _⟩
    · intro m' j E hj ⟨f1, f2, f3, f4⟩ ih2
      show zok (fn_X12_rule_170 v1 (fn_X12_rule_160 v1 m) (m' + 1) (nI i) (nI j) E) _
      rw [fn_X12_rule_170, c26 f1, nI_1, if_neg (nI_ge (by omega) (by omega)), zck_nI (by omega) (by omega), zck_nI (by omega) (by omega), nI_clamp (by omega), nI_clamp (by omega), r_isBehind, Option.bind_some]
      by_cases q : ky (gI E 128 (j + 1)) < ky (gI E 128 j)
      · rw [if_pos q, if_neg (by decide), r_swap (by omega), Option.bind_some]
        have hlt : j + 1 < c - i := by
          rcases Nat.lt_or_ge (j + 1) (c - i) with t | t
          · exact t
          · have := f3 j (j + 1) (by omega) t (by omega); omega
        have eg : ∀ k, gI (sI (sI E 128 j (gI E 128 (j + 1))) 128 (j + 1) (gI E 128 j)) 128 k = if k = j + 1 then gI E 128 j else if k = j then gI E 128 (j + 1) else gI E 128 k := fun k => by
          by_cases t : k = j + 1
          · rw [if_pos t, t, gI_eq]
          · rw [if_neg t, gI_nb t]
            by_cases t2 : k = j
            · rw [if_pos t2, t2, gI_eq]
            · rw [if_neg t2, gI_nb t2]
        refine ih2 _ ⟨agL_sI (agL_sI f1 (by unfold pB8; omega)) (by unfold pB8; omega), fun y => ?_, fun a b h1 h2 h3 => ?_, fun a b h1 h2 => ?_⟩
        · rw [← f2 y, ← upd2 (gI E 128) (show j + 1 < c by omega)]
          refine cnt_cong fun k _ => ?_
          rw [eg]
          rfl
        · rw [eg, eg, if_neg (show ¬ b = j + 1 by omega), if_neg (show ¬ b = j by omega)]
          by_cases t : a = j + 1
          · rw [if_pos t]; exact f3 j b (by omega) h2 h3
          · rw [if_neg t]
            by_cases t2 : a = j
            · rw [if_pos t2]; exact f3 (j + 1) b (by omega) h2 h3
            · rw [if_neg t2]; exact f3 a b h1 h2 h3
        · have hb : b = j + 1 := by omega
          rw [eg, eg, if_pos hb]
          by_cases t : a = j + 1
          · rw [if_pos t]; exact Int.le_refl _
          · rw [if_neg t]
            by_cases t2 : a = j
            · rw [if_pos t2]; omega
            · rw [if_neg t2]; exact f4 a j (by omega) (Or.inl rfl)
      · rw [if_neg q, if_pos rfl]
        refine ih2 _ ⟨f1, f2, f3, fun a b h1 h2 => ?_⟩
        by_cases t : b = j + 1
        · rw [t]
          by_cases t2 : a = j + 1
          · rw [t2]; exact Int.le_refl _
          · have := f4 a j (by omega) (Or.inl rfl)
            omega
        · exact f4 a b h1 (by omega)
    · intro m' E ⟨f1, f2, f3, f4⟩
      show zok (fn_X12_rule_170 v1 (fn_X12_rule_160 v1 m) (m' + 1) (nI i) (nI (c - 1)) E) _
      rw [fn_X12_rule_170, c26 f1, nI_1, if_pos (nI_le (by omega) (by omega)), nI_1]
      exact ih E ⟨f1, f2, fun a b h1 h2 h3 => f4 a b h1 (by omega)⟩
  · intro m E ⟨e1, e2, e3⟩
    show zok (fn_X12_rule_160 v1 (m + 1) (nI c) E) _
    rw [fn_X12_rule_160, c26 e1, if_pos (nI_le (Nat.le_refl _) (by omega)), zlet_eq, zok_some, gI_nb (by omega), c26 e1]
    exact hQ E e1 (fun a b h1 h2 => e3 a b h1 (by omega) h2) e2
end M9ze
