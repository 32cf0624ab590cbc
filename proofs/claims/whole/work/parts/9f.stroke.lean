/-! THE MATHEMATICS: a stroke's numbers, both -/
def stN (n : Nat) (B : Nat → Int32) (W h : Nat) (dn : Bool) (p : Nat) : (Nat × Nat) ⊕ (Nat × Nat × Nat × Nat) :=
  match nm n B 0 W p with
  | .inl f => .inl f
  | .inr (c, e1) => match nm n B 0 h e1 with
    | .inl f => .inl f
    | .inr (r, e2) => match nm n B 1 (if dn = true then h - r + 1 else W - c + 1) e2 with
      | .inl f => .inl f
      | .inr (l, e3) => .inr (c, r, l, e3)
section M9f
variable {D : zD} {n p ns W h : Nat} {B : Nat → Int32} {dn : Bool}
theorem hM (k : Nat) : nI k = nI (k + 1) - 1 := (nI_pred k).symm
theorem c_stroke (hc : cS n B p D) (h0 : gI D 12 0 = nI W) (h1 : gI D 12 1 = nI h) (h2 : gI D 12 2 = nI ns) (hn : 1 ≤ ns ∧ ns ≤ 12) (hW : 2 ≤ W ∧ W ≤ 6) (hh : 2 ≤ h ∧ h ≤ 5) : zok (fn_X1_stroke (if dn = true then 0 else 1) D) fun q => (∃ f, stN n B W h dn p = .inl f ∧ q.1 = 0 ∧ cF f q.2 ∧ ag pCs D q.2) ∨ ∃ c r l e, stN n B W h dn p = .inr (c, r, l, e) ∧ c < W ∧ r < h ∧ (if dn = true then r + l ≤ h else c + l ≤ W) ∧ q.1 = 1 ∧ cS n B e q.2 ∧ ∃ E, ag pCs D E ∧ q.2 = sI E 13 (ns - 1) (sStk W c r dn (gI D 13 (ns - 1)) l) := by
  unfold fn_X1_stroke stN
  rw [h0]
  refine (c_numberOf hc (lo := 0) (H := W) (by omega) (by omega)).bind fun q ⟨a1, o1⟩ => ?_
  rcases o1 with ⟨f, z1, z2, z3⟩ | ⟨c, e1, z1, z2, z3, z4⟩
  · rw [z1, z2, if_pos rfl, zok_some]
    exact Or.inl ⟨f, rfl, rfl, z3, a1⟩
  rw [z1, z3, if_neg (fun t => (nM1 _ (by omega)).mp t), a1 12 1 (by unfold pCs; omega), h1]
  refine (c_numberOf z4 (lo := 0) (H := h) (by omega) (by omega)).bind fun q2 ⟨a2, o2⟩ => ?_
  rcases o2 with ⟨f, y1, y2, y3⟩ | ⟨r, e2, y1, y2, y3, y4⟩
  · rw [y2, if_pos rfl, zok_some]
    exact Or.inl ⟨f, by show (match nm n B 0 h e1 with | .inl f => _ | .inr (r, e2) => _) = _; rw [y1], rfl, y3, a1.trans a2⟩
  have a12 := a1.trans a2
  rw [y3, if_neg (fun t => (nM1 _ (by omega)).mp t)]
  have last : ∀ hi, hi ≤ 90 → hi = (if dn = true then h - r else W - c) → zok (fn_X1_stroke_80 (if dn = true then 0 else 1) (nI c) (nI r) 1 (nI hi) q2.2) fun q => (∃ f, (match nm n B 1 (if dn = true then h - r + 1 else W - c + 1) e2 with | .inl f => Sum.inl f | .inr (l, e3) => Sum.inr (c, r, l, e3)) = .inl f ∧ q.1 = 0 ∧ cF f q.2 ∧ ag pCs D q.2) ∨ ∃ c' r' l e, (match nm n B 1 (if dn = true then h - r + 1 else W - c + 1) e2 with | .inl f => (Sum.inl f : (Nat × Nat) ⊕ (Nat × Nat × Nat × Nat)) | .inr (l, e3) => Sum.inr (c, r, l, e3)) = .inr (c', r', l, e) ∧ c' < W ∧ r' < h ∧ (if dn = true then r' + l ≤ h else c' + l ≤ W) ∧ q.1 = 1 ∧ cS n B e q.2 ∧ ∃ E, ag pCs D E ∧ q.2 = sI E 13 (ns - 1) (sStk W c' r' dn (gI D 13 (ns - 1)) l) := by
    intro hi h900 he
    unfold fn_X1_stroke_80
    rw [hM hi]
    refine (show zok (fn_X8_number 1 (nI (hi + 1) - 1) q2.2) _ from c_numberOf y4 (lo := 1) (H := hi + 1) (by omega) (by omega)).bind fun q3 ⟨a3, o3⟩ => ?_
    have eH : (if dn = true then h - r + 1 else W - c + 1) = hi + 1 := by rw [he]; split <;> rfl
    rw [eH]
    rcases o3 with ⟨f, x1, x2, x3⟩ | ⟨l, e3, x1, x2, x3, x4⟩
    · rw [x1, x2, if_pos rfl, zok_some]
      exact Or.inl ⟨f, rfl, rfl, x3, a12.trans a3⟩
    · have a123 := a12.trans a3
      rw [x1, x3, if_neg (fun t => (nM1 _ (by omega)).mp t), a123 12 2 (by unfold pCs; omega), h2, nS1 _ hn.1, v_paint (ns := ns) (by rw [a123 _ _ (by unfold pCs; omega), h2]) (by omega) hn.2, Option.bind_some, c_stroke114 (W := W) (ns := ns) (by rw [a123 _ _ (by unfold pCs; omega), h0]) (by rw [a123 _ _ (by unfold pCs; omega), h2]) hn (by omega), zok_some]
      refine Or.inr ⟨c, r, l, e3, rfl, z2, y2, ?_, rfl, ⟨⟨x4.1.1, by rw [gI_na (by omega)]; exact x4.1.2.1, fun i hi => by rw [gI_na (by omega)]; exact x4.1.2.2 i hi⟩, x4.2.1, by rw [gI_na (by omega)]; exact x4.2.2.1, by rw [gI_na (by omega)]; exact x4.2.2.2.1, by rw [gI_na (by omega)]; exact x4.2.2.2.2⟩, q3.2, a123, by rw [a123 (12 + 1) _ (by unfold pCs; omega)]⟩
      by_cases g : dn = true
      · rw [if_pos g] at he ⊢; omega
      · rw [if_neg g] at he ⊢; omega
  have e12 : gI q2.2 12 1 = nI h := by rw [a12 _ _ (by unfold pCs; omega), h1]
  have e10 : gI q2.2 12 0 = nI W := by rw [a12 _ _ (by unfold pCs; omega), h0]
  have main := fun hi a b => last hi a b
  show zok _ fun (q : Int32 × zD) => (∃ f, (match nm n B 0 h e1 with | .inl f => Sum.inl f | .inr (r, e2) => match nm n B 1 (if dn = true then h - r + 1 else W - c + 1) e2 with | .inl f => Sum.inl f | .inr (l, e3) => Sum.inr (c, r, l, e3)) = .inl f ∧ q.1 = 0 ∧ cF f q.2 ∧ ag pCs D q.2) ∨ ∃ c' r' l e, (match nm n B 0 h e1 with | .inl f => (Sum.inl f : (Nat × Nat) ⊕ (Nat × Nat × Nat × Nat)) | .inr (r, e2) => match nm n B 1 (if dn = true then h - r + 1 else W - c + 1) e2 with | .inl f => Sum.inl f | .inr (l, e3) => Sum.inr (c, r, l, e3)) = .inr (c', r', l, e) ∧ c' < W ∧ r' < h ∧ (if dn = true then r' + l ≤ h else c' + l ≤ W) ∧ q.1 = 1 ∧ cS n B e q.2 ∧ ∃ E, ag pCs D E ∧ q.2 = sI E 13 (ns - 1) (sStk W c' r' dn (gI D 13 (ns - 1)) l)
  rw [y1]
  rw [e12, e10]
  by_cases g : dn = true
  · rw [if_pos (show (if dn = true then (0 : Int32) else 1) = 0 by rw [if_pos g]), nSn _ _ (by omega)]
    exact main _ (by omega) (by rw [if_pos g])
  · rw [if_neg (show ¬ (if dn = true then (0 : Int32) else 1) = 0 by rw [if_neg g]; decide), nSn _ _ (by omega)]
    exact main _ (by omega) (by rw [if_neg g])
end M9f
