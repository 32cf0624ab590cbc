/-! THE MATHEMATICS: reading the tape, the reference -/
def pRd (a b : Nat) : Prop := ¬ (a = 102 ∧ 4 ≤ b ∧ b ≤ 6)
def rB (n : Nat) (B : Nat → Int32) (D : zD) : Prop := n ≤ 500 ∧ gI D 102 2 = nI n ∧ ∀ i, i < n → gI D 103 i = B i ∧ ∃ b, b < 256 ∧ B i = nI b
def rdS (n : Nat) (B : Nat → Int32) (p : Nat) (D : zD) : Prop := rB n B D ∧ p ≤ n ∧ gI D 102 4 = nI p ∧ gI D 102 5 = 0 ∧ gI D 102 6 = -1
def rdF (f : Nat × Nat) (D : zD) : Prop := gI D 102 5 = nI f.1 ∧ gI D 102 6 = nI f.2 ∧ 1 ≤ f.1 ∧ f.1 < 10 ∧ ∃ i, i ≤ 1000 ∧ gI D 102 4 = nI i
section M96
variable {D : zD} {n p : Nat} {B : Nat → Int32}
theorem rB.keep {E : zD} (h : rB n B D) (g : agL pRd D E) : rB n B E := ⟨h.1, by rw [g.1 _ _ (by unfold pRd; omega)]; exact h.2.1, fun i hi => by rw [g.1 _ _ (by unfold pRd; omega)]; exact h.2.2 i hi⟩
theorem rdS.pos (h : rdS n B p D) {e : Nat} (he : e ≤ n) : rdS n B e (sI D 102 4 (nI e)) :=
  ⟨h.1.keep (agL_sI agL.refl (by unfold pRd; omega)), he, gI_eq, by rw [gI_nb (by omega)]; exact h.2.2.2.1, by rw [gI_nb (by omega)]; exact h.2.2.2.2⟩
theorem r_byteAt (h : rB n B D) {i : Nat} (hi : i < 100000) : fn_X12_byteAt (nI i) D = some (tb n B i) := by
  have h500 := h.1
  unfold fn_X12_byteAt
  rw [h.2.1]
  by_cases q : i < n
  · rw [if_pos (nI_lt q (by omega)), zck_nI (by omega) (by omega), nI_clamp (by omega), (h.2.2 i q).1, tb_in q]
  · rw [if_neg (show ¬ nI i < nI n by rw [nLt _ _ (by omega) (by omega)]; omega), tb_out (by omega)]
theorem r_blanks (h : rdS n B p D) : zok (fn_X12_blanks D) fun E => rdS n B (sk n B p) E ∧ agL pRd D E := by
  have hs := sk_le (B := B) h.2.1
  have h500 := h.1.1
  unfold fn_X12_blanks
  refine z_inv (sk n B p) (fun m i (E : zD) => fn_X12_blanks_0 m E) (fun i E => p ≤ i ∧ rdS n B i E ∧ agL pRd D E) _ ?_ ?_ p zFU D hs.1 (by unfold zFU; omega) ⟨Nat.le_refl _, h, agL.refl⟩
  · intro m i E hi ⟨g0, g1, g2⟩ ih
    show zok (fn_X12_blanks_0 (m + 1) E) _
    rw [fn_X12_blanks_0, g1.2.2.1, r_byteAt g1.1 (by omega), Option.bind_some, if_pos (sk_no g0 hi), nI_1, zlet_eq]
    exact ih _ ⟨by omega, g1.pos (by omega), agL_sI g2 (by unfold pRd; omega)⟩
  · intro m E ⟨g0, g1, g2⟩
    show zok (fn_X12_blanks_0 (m + 1) E) _
    have hne : tb n B (sk n B p) ≠ 32 := by
      rcases Nat.lt_or_ge (sk n B p) n with g | g
      · exact sk_yes g
      · rw [tb_out g]; decide
    rw [fn_X12_blanks_0, g1.2.2.1, r_byteAt g1.1 (by omega), Option.bind_some, if_neg hne, zok_some]
    exact ⟨g1, g2⟩
theorem r_wrong {k pl : Nat} (h : rdS n B p D) (hk : 1 ≤ k ∧ k < 10) : zok (fn_X12_wrong (nI k) (nI pl) D) fun E => rdF (k, pl) E ∧ agL pRd D E ∧ gI E 102 4 = gI D 102 4 := by
  unfold fn_X12_wrong
  rw [h.2.2.2.1, if_pos rfl, zlet_eq, zlet_eq, zok_some]
  exact ⟨⟨by rw [gI_nb (by omega), gI_eq], gI_eq, hk.1, hk.2, p, by have := h.1.1; have := h.2.1; omega, by rw [gI_nb (by omega), gI_nb (by omega)]; exact h.2.2.1⟩, agL_sI (agL_sI agL.refl (by unfold pRd; omega)) (by unfold pRd; omega), by rw [gI_nb (by omega), gI_nb (by omega)]⟩
theorem rdF_ne {f : Nat × Nat} (h : rdF f D) : ¬ gI D 102 5 = 0 := by
  rw [h.1]
  exact nI_ne0 (by have := h.2.2.1; omega) (by have := h.2.2.2.1; omega)
theorem r_wrongF {f : Nat × Nat} (h : rdF f D) (k pl : Int32) : fn_X12_wrong k pl D = some D := by
  unfold fn_X12_wrong
  rw [if_neg (rdF_ne h)]
theorem r_isDigit (x : Int32) : fn_X12_isDigit x = some (bI (dgt x)) := by
  unfold fn_X12_isDigit dgt
  by_cases q : x < 48
  · rw [if_pos q, decide_eq_false (fun r => r.1 q)]; rfl
  · rw [if_neg q]
    by_cases r : 57 < x
    · rw [if_pos r, decide_eq_false (fun t => t.2 r)]; rfl
    · rw [if_neg r, decide_eq_true ⟨q, r⟩]; rfl
theorem r_isSmall (x : Int32) : fn_X12_isSmall x = some (bI (sml x)) := by
  unfold fn_X12_isSmall sml
  by_cases q : x < 97
  · rw [if_pos q, decide_eq_false (fun r => r.1 q)]; rfl
  · rw [if_neg q]
    by_cases r : 122 < x
    · rw [if_pos r, decide_eq_false (fun t => t.2 r)]; rfl
    · rw [if_neg r, decide_eq_true ⟨q, r⟩]; rfl
theorem r_skipWord (h : rdS n B p D) : zok (fn_X12_skipWord D) fun E => rdS n B (lt6 n B p) E ∧ agL pRd D E := by
  have hs := lt6_le (B := B) h.2.1
  have h500 := h.1.1
  unfold fn_X12_skipWord
  refine z_inv (lt6 n B p) (fun m i (E : zD) => fn_X12_skipWord_0 m E) (fun i E => p ≤ i ∧ rdS n B i E ∧ agL pRd D E) _ ?_ ?_ p zFU D hs.1 (by unfold zFU; omega) ⟨Nat.le_refl _, h, agL.refl⟩
  · intro m i E hi ⟨g0, g1, g2⟩ ih
    show zok (fn_X12_skipWord_0 (m + 1) E) _
    rw [fn_X12_skipWord_0, g1.2.2.1, r_byteAt g1.1 (by omega), Option.bind_some, r_isSmall, Option.bind_some, lt6_no g0 hi, if_neg (show ¬ bI true = 0 by decide), nI_1, zlet_eq]
    exact ih _ ⟨by omega, g1.pos (by omega), agL_sI g2 (by unfold pRd; omega)⟩
  · intro m E ⟨g0, g1, g2⟩
    show zok (fn_X12_skipWord_0 (m + 1) E) _
    have hne : sml (tb n B (lt6 n B p)) = false := by
      rcases Nat.lt_or_ge (lt6 n B p) n with g | g
      · exact lt6_yes g
      · rw [tb_out g]; decide
    rw [fn_X12_skipWord_0, g1.2.2.1, r_byteAt g1.1 (by omega), Option.bind_some, r_isSmall, Option.bind_some, hne, if_pos (show bI false = 0 from rfl), zok_some]
    exact ⟨g1, g2⟩
theorem r_closes {m : Nat} (hm : m < 256) (h : rdS n B p D) : zok (fn_X12_closes (nI m) D) fun E => agL pRd D E ∧ ((tb n B (sk n B p) = nI m ∧ sk n B p < n ∧ rdS n B (sk n B p + 1) E) ∨ (¬ tb n B (sk n B p) = nI m ∧ rdF (1, sk n B p) E)) := by
  have h500 := h.1.1
  unfold fn_X12_closes
  rw [h.2.2.2.1, if_pos rfl]
  refine (r_blanks h).bind fun E ⟨e1, e2⟩ => ?_
  have hsk := sk_le (B := B) h.2.1
  rw [e1.2.2.1, r_byteAt e1.1 (by omega), Option.bind_some]
  by_cases r : tb n B (sk n B p) = nI m
  · have hs : sk n B p < n := by
      rcases Nat.lt_or_ge (sk n B p) n with g | g
      · exact g
      · rw [tb_out g] at r
        exact ((m1N _ (by omega)).mp r).elim
    rw [if_pos r, nI_1, zlet_eq, zok_some]
    exact ⟨agL_sI e2 (by unfold pRd; omega), Or.inl ⟨r, hs, e1.pos (by omega)⟩⟩
  · rw [if_neg r]
    refine (r_wrong (k := 1) (pl := sk n B p) e1 (by omega)).bind fun F ⟨f1, f2, _⟩ => ?_
    rw [zok_some]
    exact ⟨e2.trans f2, Or.inr ⟨r, f1⟩⟩
theorem r_blanksF {f : Nat × Nat} (hB : rB n B D) (h : rdF f D) : zok (fn_X12_blanks D) fun E => rdF f E ∧ agL pRd D E := by
  obtain ⟨h1, h2, h3, h4, i, h5, h6⟩ := h
  have h500 := hB.1
  have hz := zff_le (fun i => !decide (tb n B i = 32)) (n - i) i
  have hle : i ≤ sk n B i := hz.1
  have hlt : sk n B i ≤ 1000 := by have := hz.2; unfold sk; omega
  unfold fn_X12_blanks
  refine z_inv (sk n B i) (fun m j (E : zD) => fn_X12_blanks_0 m E) (fun j E => i ≤ j ∧ gI E 102 4 = nI j ∧ gI E 102 5 = nI f.1 ∧ gI E 102 6 = nI f.2 ∧ agL pRd D E) _ ?_ ?_ i zFU D hle (by unfold zFU; omega) ⟨Nat.le_refl _, h6, h1, h2, agL.refl⟩
  · intro m j E hj ⟨g0, g1, g2, g3, g4⟩ ih
    show zok (fn_X12_blanks_0 (m + 1) E) _
    have hb := sk_no (n := n) (B := B) g0 hj
    rw [fn_X12_blanks_0, g1, r_byteAt (hB.keep g4) (by omega), Option.bind_some, hb, if_pos rfl, nI_1, zlet_eq]
    exact ih _ ⟨by omega, gI_eq, by rw [gI_nb (by omega), g2], by rw [gI_nb (by omega), g3], agL_sI g4 (by unfold pRd; omega)⟩
  · intro m E ⟨g0, g1, g2, g3, g4⟩
    show zok (fn_X12_blanks_0 (m + 1) E) _
    have hne : ¬ tb n B (sk n B i) = 32 := by
      rcases Nat.lt_or_ge (sk n B i) n with g | g
      · exact sk_yes g
      · rw [tb_out g]; decide
    rw [fn_X12_blanks_0, g1, r_byteAt (hB.keep g4) (by omega), Option.bind_some, if_neg hne, zok_some]
    exact ⟨⟨g2, g3, h3, h4, sk n B i, hlt, g1⟩, g4⟩
theorem r_closesF {f : Nat × Nat} (h : rdF f D) (m : Int32) : fn_X12_closes m D = some D := by
  unfold fn_X12_closes
  rw [if_neg (rdF_ne h)]
theorem r_numberF {f : Nat × Nat} (h : rdF f D) (a b : Int32) : fn_X12_number a b D = some (0, D) := by
  unfold fn_X12_number
  rw [if_neg (rdF_ne h)]
end M96
