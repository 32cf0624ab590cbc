/-! THE MATHEMATICS: a stroke's numbers, the reference -/
section M9g
variable {D : zD} {n p ns W h : Nat} {B : Nat → Int32} {dn : Bool}
theorem r_strokeF {f : Nat × Nat} (hf : rdF f D) (v1 v2 v3 : Int32) : fn_X12_readsStroke_63 v1 zFU v2 v3 0 0 D = some D := by
  show fn_X12_readsStroke_63 v1 (4294967295 + 1) v2 v3 0 0 D = some D
  rw [fn_X12_readsStroke_63, if_pos (show (0 : Int32) ≤ 0 by decide)]
theorem r_stroke (hc : rdS n B p D) (h10 : gI D 102 10 = nI W) (h11 : gI D 102 11 = nI h) (h12 : gI D 102 12 = nI ns) (hn : 1 ≤ ns ∧ ns ≤ 12) (hW : 2 ≤ W ∧ W ≤ 6) (hh : 2 ≤ h ∧ h ≤ 5) : zok (fn_X12_readsStroke (if dn = true then 3 else 2) D) fun E => (∃ f, stN n B W h dn p = .inl f ∧ rdF f E ∧ agL pRd D E) ∨ ∃ c r l e, stN n B W h dn p = .inr (c, r, l, e) ∧ ∃ F, agL pRd D F ∧ rdS n B e F ∧ (∀ a b, gI E a b = if a = 104 ∧ b = ns - 1 then sStk W c r dn (gI F 104 (ns - 1)) l else gI F a b) ∧ E.1 = F.1 := by
  have h4 : ¬ (if dn = true then (3 : Int32) else 2) = 4 := by cases dn <;> decide
  unfold fn_X12_readsStroke stN
  rw [h10]
  refine (r_numberOf hc (lo := 0) (H := W) (by omega) (by omega)).bind fun q ⟨a1, o1⟩ => ?_
  have e11 : gI q.2 102 11 = nI h := by rw [a1.1 _ _ (by unfold pRd; omega), h11]
  rw [e11]
  rcases o1 with ⟨f, z1, z2⟩ | ⟨c, e1, z1, z2, z3, z4⟩
  · rw [z1, r_numberF z2, Option.bind_some, if_neg h4]
    have fin : zok (some q.2) fun E => (∃ f', (Sum.inl f : (Nat × Nat) ⊕ (Nat × Nat × Nat × Nat)) = .inl f' ∧ rdF f' E ∧ agL pRd D E) ∨ ∃ c r l e, (Sum.inl f : (Nat × Nat) ⊕ (Nat × Nat × Nat × Nat)) = .inr (c, r, l, e) ∧ ∃ F, agL pRd D F ∧ rdS n B e F ∧ (∀ a b, gI E a b = if a = 104 ∧ b = ns - 1 then sStk W c r dn (gI F 104 (ns - 1)) l else gI F a b) ∧ E.1 = F.1 := zok_some.mpr (Or.inl ⟨f, rfl, z2, a1⟩)
    rw [r_numberF z2, r_numberF z2]
    split
    · rw [Option.bind_some, r_strokeF z2]; exact fin
    · rw [Option.bind_some, r_strokeF z2]; exact fin
  rw [z1, z3]
  refine (r_numberOf z4 (lo := 0) (H := h) (by omega) (by omega)).bind fun q2 ⟨a2, o2⟩ => ?_
  have a12 := a1.trans a2
  rw [if_neg h4]
  rcases o2 with ⟨f, y1, y2⟩ | ⟨r, e2, y1, y2, y3, y4⟩
  · rw [r_numberF y2, r_numberF y2]
    split
    · rw [Option.bind_some, r_strokeF y2]
      exact zok_some.mpr (Or.inl ⟨f, by show (match nm n B 0 h e1 with | .inl f => _ | .inr (r, e2) => _) = _; rw [y1], y2, a12⟩)
    · rw [Option.bind_some, r_strokeF y2]
      exact zok_some.mpr (Or.inl ⟨f, by show (match nm n B 0 h e1 with | .inl f => _ | .inr (r, e2) => _) = _; rw [y1], y2, a12⟩)
  have e12 : gI q2.2 102 11 = nI h := by rw [a12.1 _ _ (by unfold pRd; omega), h11]
  have e10 : gI q2.2 102 10 = nI W := by rw [a12.1 _ _ (by unfold pRd; omega), h10]
  rw [e10, e12, y3, nSn _ _ (by omega), nSn _ _ (by omega)]
  have last : ∀ hi, hi ≤ 90 → hi = (if dn = true then h - r else W - c) → zok ((fn_X12_number 1 (nI hi) q2.2).bind fun q5 => fn_X12_readsStroke_63 (if dn = true then 3 else 2) zFU (nI c) (nI r) q5.1 0 q5.2) fun E => (∃ f', (match nm n B 1 (if dn = true then h - r + 1 else W - c + 1) e2 with | .inl f => Sum.inl f | .inr (l, e3) => Sum.inr (c, r, l, e3)) = .inl f' ∧ rdF f' E ∧ agL pRd D E) ∨ ∃ c' r' l e, (match nm n B 1 (if dn = true then h - r + 1 else W - c + 1) e2 with | .inl f => (Sum.inl f : (Nat × Nat) ⊕ (Nat × Nat × Nat × Nat)) | .inr (l, e3) => Sum.inr (c, r, l, e3)) = .inr (c', r', l, e) ∧ ∃ F, agL pRd D F ∧ rdS n B e F ∧ (∀ a b, gI E a b = if a = 104 ∧ b = ns - 1 then sStk W c' r' dn (gI F 104 (ns - 1)) l else gI F a b) ∧ E.1 = F.1 := by
    intro hi h90 he
    rw [hM hi]
    refine (show zok (fn_X12_number 1 (nI (hi + 1) - 1) q2.2) _ from r_numberOf y4 (lo := 1) (H := hi + 1) (by omega) (by omega)).bind fun q3 ⟨a3, o3⟩ => ?_
    have eH : (if dn = true then h - r + 1 else W - c + 1) = hi + 1 := by rw [he]; split <;> rfl
    rw [eH]
    rcases o3 with ⟨f, x1, x2⟩ | ⟨l, e3, x1, x2, x3, x4⟩
    · rw [x1]
      refine (show zok (fn_X12_readsStroke_63 (if dn = true then 3 else 2) zFU (nI c) (nI r) q3.1 0 q3.2) (fun E => E = q3.2) from ?_).mono fun E hE => Or.inl ⟨f, rfl, by rw [hE]; exact x2, by rw [hE]; exact a12.trans a3⟩
      show zok (fn_X12_readsStroke_63 (if dn = true then 3 else 2) (4294967295 + 1) (nI c) (nI r) q3.1 0 q3.2) _
      rw [fn_X12_readsStroke_63, if_neg (rdF_ne x2)]
      split <;> exact zok_some.mpr rfl
    · have a123 := a12.trans a3
      rw [x1, x3]
      exact (r_stroke63 (W := W) (ns := ns) (by rw [a123.1 _ _ (by unfold pRd; omega), h10]) (by rw [a123.1 _ _ (by unfold pRd; omega), h12]) x4.2.2.2.1 hn (by omega)).mono fun E ⟨k1, k2⟩ => Or.inr ⟨c, r, l, e3, rfl, q3.2, a123, x4, k1, k2⟩
  show zok _ fun (E : zD) => (∃ f', (match nm n B 0 h e1 with | .inl f => Sum.inl f | .inr (r, e2) => match nm n B 1 (if dn = true then h - r + 1 else W - c + 1) e2 with | .inl f => Sum.inl f | .inr (l, e3) => Sum.inr (c, r, l, e3)) = .inl f' ∧ rdF f' E ∧ agL pRd D E) ∨ ∃ c' r' l e, (match nm n B 0 h e1 with | .inl f => (Sum.inl f : (Nat × Nat) ⊕ (Nat × Nat × Nat × Nat)) | .inr (r, e2) => match nm n B 1 (if dn = true then h - r + 1 else W - c + 1) e2 with | .inl f => Sum.inl f | .inr (l, e3) => Sum.inr (c, r, l, e3)) = .inr (c', r', l, e) ∧ ∃ F, agL pRd D F ∧ rdS n B e F ∧ (∀ a b, gI E a b = if a = 104 ∧ b = ns - 1 then sStk W c' r' dn (gI F 104 (ns - 1)) l else gI F a b) ∧ E.1 = F.1
  rw [y1]
  by_cases g : dn = true
  · rw [if_neg (show ¬ (if dn = true then (3 : Int32) else 2) = 2 by rw [if_pos g]; decide)]
    exact last _ (by omega) (by rw [if_pos g])
  · rw [if_pos (show (if dn = true then (3 : Int32) else 2) = 2 by rw [if_neg g])]
    exact last _ (by omega) (by rw [if_neg g])
end M9g
