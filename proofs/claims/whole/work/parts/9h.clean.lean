/-! THE MATHEMATICS: the clause clean, the class -/
def clN (n : Nat) (B : Nat → Int32) (W h p : Nat) : (Nat × Nat) ⊕ (Nat × Nat × Nat) :=
  match nm n B 0 W p with
  | .inl f => .inl f
  | .inr (c, e1) => match nm n B 0 h e1 with
    | .inl f => .inl f
    | .inr (r, e2) => .inr (c, r, e2)
section M9h
variable {D : zD} {n p ns W h : Nat} {B : Nat → Int32}
theorem c_clean (hc : cS n B p D) (h0 : gI D 12 0 = nI W) (h1 : gI D 12 1 = nI h) (h2 : gI D 12 2 = nI ns) (hn : 1 ≤ ns ∧ ns ≤ 12) (hW : W ≤ 6) (hh : h ≤ 5) : zok (fn_X1_clean D) fun q => (∃ f, clN n B W h p = .inl f ∧ q.1 = 0 ∧ cF f q.2 ∧ ag pCs D q.2) ∨ ∃ c r e, clN n B W h p = .inr (c, r, e) ∧ c < W ∧ r < h ∧ q.1 = 1 ∧ cS n B e q.2 ∧ ∃ E, ag pCs D E ∧ q.2 = sI E 13 (ns - 1) (gI D 13 (ns - 1) &&& (bit1 (W * r + c) ^^^ -1)) := by
  unfold fn_X1_clean clN
  rw [h0]
  refine (c_numberOf hc (lo := 0) (H := W) (by omega) (by omega)).bind fun q ⟨a1, o1⟩ => ?_
  rcases o1 with ⟨f, z1, z2, z3⟩ | ⟨c, e1, z1, z2, z3, z4⟩
  · rw [z1, z2, if_pos rfl, zok_some]
    exact Or.inl ⟨f, rfl, rfl, z3, a1⟩
  rw [z1, z3, if_neg (fun t => (nM1 _ (by omega)).mp t), a1 12 1 (by unfold pCs; omega), h1]
  refine (c_numberOf z4 (lo := 0) (H := h) (by omega) (by omega)).bind fun q2 ⟨a2, o2⟩ => ?_
  have a12 := a1.trans a2
  rcases o2 with ⟨f, y1, y2, y3⟩ | ⟨r, e2, y1, y2, y3, y4⟩
  · rw [y2, if_pos rfl, zok_some]
    exact Or.inl ⟨f, by show (match nm n B 0 h e1 with | .inl f => _ | .inr (r, e2) => _) = _; rw [y1], rfl, y3, a12⟩
  have e2' : gI q2.2 12 2 = nI ns := by rw [a12 _ _ (by unfold pCs; omega), h2]
  rw [y3, if_neg (fun t => (nM1 _ (by omega)).mp t), e2', nS1 _ hn.1, v_paint e2' (by omega) hn.2, Option.bind_some, a12 12 0 (by unfold pCs; omega), h0, pk_mul, nI_add, bit1_u, c_setLatest e2' hn, Option.bind_some, zok_some]
  refine Or.inr ⟨c, r, e2, ?_, z2, y2, rfl, ⟨⟨y4.1.1, by rw [gI_na (by omega)]; exact y4.1.2.1, fun i hi => by rw [gI_na (by omega)]; exact y4.1.2.2 i hi⟩, y4.2.1, by rw [gI_na (by omega)]; exact y4.2.2.1, by rw [gI_na (by omega)]; exact y4.2.2.2.1, by rw [gI_na (by omega)]; exact y4.2.2.2.2⟩, q2.2, a12, by rw [a12 (12 + 1) _ (by unfold pCs; omega)]⟩
  show (match nm n B 0 h e1 with | .inl f => _ | .inr (r, e2) => _) = _
  rw [y1]
end M9h
