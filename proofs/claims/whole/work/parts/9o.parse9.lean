/-! THE MATHEMATICS: the clauses of an alphabet, both -/
section M9o
variable {D : zD} {n : Nat} {B : Nat → Int32}
theorem rB.keepS {E : zD} (k : rB n B D) (g : agL pDs D E) : rB n B E := ⟨k.1, by rw [g.1 _ _ (by unfold pDs pDr; omega)]; exact k.2.1, fun i hi => by rw [g.1 _ _ (by unfold pDs pDr; omega)]; exact k.2.2 i hi⟩
theorem r_step62 {E : zD} {v : Int32} {m p : Nat} {Q : Int32 × zD → Prop} {I : zD → Prop} (hE : rdS n B p E) (hp : p < n) (hc : zok (fn_X12_clause E) I) (k : ∀ F, I F → zok (fn_X12_blanks F) fun G => zok (fn_X12_alphabet_62 v m G) Q) : zok (fn_X12_alphabet_62 v (m + 1) E) Q := by
  have h500 := hE.1.1
  rw [fn_X12_alphabet_62, hE.2.2.2.1, if_pos rfl, hE.1.2.1, hE.2.2.1, if_neg (nI_ge hp (by omega))]
  exact hc.bind fun F hF => (k F hF).bind fun G hG => hG
theorem c_parse9 : ∀ (k t p W h ns nw m : Nat) (D : zD), t + k = 60 → k < m → cS n B p D → dW W h ns nw D → (t = 0 → ns = 0 ∧ nw = 0) → zok (fn_X1_parse_9 m (nI t) D) fun q => ag pDc D q.2 ∧
    ((q.1 = 0 ∧ ∃ f, cF f q.2 ∧ ∀ (E : zD) (m' : Nat) (v : Int32) (Q : Int32 × zD → Prop), k + 1 < m' → rdS n B (sk n B p) E → gI E 102 7 = nI t → dR W h ns nw D E → (∀ F, agL pDs E F → rdF f F → zok (fn_X12_alphabet_91 v F) Q) → zok (fn_X12_alphabet_62 v m' E) Q) ∨
    (q.1 = 1 ∧ ∃ a b c d, dW a b c d q.2 ∧ gI q.2 2 4 = -1 ∧ ∀ (E : zD) (m' : Nat) (v : Int32) (Q : Int32 × zD → Prop), k + 1 < m' → rdS n B (sk n B p) E → gI E 102 7 = nI t → dR W h ns nw D E → (∀ F, agL pDs E F → gI F 102 5 = 0 → gI F 102 6 = -1 → dR a b c d q.2 F → zok (fn_X12_alphabet_91 v F) Q) → zok (fn_X12_alphabet_62 v m' E) Q)) := by
  intro k
  induction k with
  | zero => ?_
  | succ k ih => ?_
  all_goals
    intro t p W h ns nw m D htk hm hc d h0
    obtain ⟨m, rfl⟩ : ∃ x, m = x + 1 := ⟨m - 1, by omega⟩
    have d1 := d.1
    have h500 := hc.1.1
    have hsk := sk_le (B := B) hc.2.1
    have ss := sk_sk (B := B) hc.2.1
    have e60 : (60 : Int32) < nI t ↔ 60 < t := nLt 60 t (by omega) (by omega)
    rw [fn_X1_parse_9, if_neg (fun r => by have := e60.mp r; omega)]
    refine (c_ended hc).bind fun q3 ⟨a3, b3, x3⟩ => ?_
    rw [x3]
    by_cases q : sk n B p < n
    · rw [if_pos q, if_pos rfl]
      have dk := d.cs a3
      refine (c_clause b3 dk (by omega) h0).bind fun q5 ⟨a5, o⟩ => ?_
      have hRk : ∀ {E : zD}, dR W h ns nw D E → dR W h ns nw q3.2 E := fun hR => hR.keep (by omega) (fun a b _ _ => a3 _ _ (by unfold pCs; omega)) fun _ _ _ => rfl
      have fault : ∀ (f : Nat × Nat), (∀ E, rdS n B (sk n B p) E → gI E 102 7 = nI t → dR W h ns nw q3.2 E → zok (fn_X12_clause E) fun F => agL pDs E F ∧ rdF f F) → ∀ (E : zD) (m' : Nat) (v : Int32) (Q : Int32 × zD → Prop), 1 < m' → rdS n B (sk n B p) E → gI E 102 7 = nI t → dR W h ns nw D E → (∀ F, agL pDs E F → rdF f F → zok (fn_X12_alphabet_91 v F) Q) → zok (fn_X12_alphabet_62 v m' E) Q := by
        intro f hf E m' v Q hm' hE h7 hR hQ
        obtain ⟨m', rfl⟩ : ∃ x, m' = x + 1 + 1 := ⟨m' - 2, by omega⟩
        refine r_step62 hE q (hf E hE h7 (hRk hR)) fun F ⟨f1, f2⟩ => ?_
        refine (r_blanksF (hE.1.keepS f1) f2).mono fun G ⟨g1, g2⟩ => ?_
        rw [fn_X12_alphabet_62, if_neg (rdF_ne g1)]
        exact hQ G (f1.trans (pRd_s g2)) g1
      rcases o with ⟨x5, f, y1, y2⟩ | ⟨x5, e, a, b, c, dd, y1, y2, y3, y4⟩
      · rw [x5, if_pos rfl, zok_some]
        exact ⟨(pCs_D a3).trans a5, Or.inl ⟨rfl, f, y1, fun E m' v Q hm' => fault f y2 E m' v Q (by omega)⟩⟩
      · rw [x5, if_neg (show ¬ (1 : Int32) = 0 by decide)]
        first
        | exact absurd y3 (by omega)
        | refine (show zok (fn_X8_needsMark (nI 59) q5.2) _ from c_needsMark (m := 59) (by omega) y1).bind fun q7 ⟨a7, o7⟩ => ?_
          rcases o7 with ⟨z1, z2, z3, z4⟩ | ⟨z1, z3, z4⟩
          · rw [z3, if_neg (show ¬ (1 : Int32) = 0 by decide), nI_1]
            have d7 := y2.cs a7
            refine (ih (t + 1) (sk n B e + 1) a b c dd m q7.2 (by omega) (by omega) z4 d7 (by omega)).mono fun q8 ⟨a8, o8⟩ => ⟨((pCs_D a3).trans a5).trans ((pCs_D a7).trans a8), ?_⟩
            have y21 := y2.1
            have go : ∀ (E : zD) (m' : Nat) (v : Int32) (Q : Int32 × zD → Prop), k + 1 + 1 < m' → rdS n B (sk n B p) E → gI E 102 7 = nI t → dR W h ns nw D E → (∀ G, agL pDs E G → rdS n B (sk n B (sk n B e + 1)) G → gI G 102 7 = nI (t + 1) → dR a b c dd q7.2 G → ∀ x, k + 1 < x → zok (fn_X12_alphabet_62 v x G) Q) → zok (fn_X12_alphabet_62 v m' E) Q := by
              intro E m' v Q hm' hE h7 hR hG
              obtain ⟨m', rfl⟩ : ∃ x, m' = x + 1 := ⟨m' - 1, by omega⟩
              refine r_step62 hE q (y4 E hE h7 (hRk hR)) fun F ⟨f1, f2⟩ => ?_
              rcases f2 with ⟨_, _, f3, f4, f5⟩ | ⟨w, _⟩
              · refine (r_blanks f4).mono fun G ⟨g1, g2⟩ => hG G (f1.trans (pRd_s g2)) g1 (by rw [g2.1 _ _ (by unfold pRd; omega), f3]) (f5.cs (by omega) a7 g2) m' (by omega)
              · exact absurd z1 w
            rcases o8 with ⟨w1, f, w2, w3⟩ | ⟨w1, a', b', c', d', w2, w4, w3⟩
            · exact Or.inl ⟨w1, f, w2, fun E m' v Q hm' hE h7 hR hQ => go E m' v Q hm' hE h7 hR fun G g1 g2 g3 g4 x hx => w3 G x v Q hx g2 g3 g4 fun F f1 f2 => hQ F (g1.trans f1) f2⟩
            · exact Or.inr ⟨w1, a', b', c', d', w2, w4, fun E m' v Q hm' hE h7 hR hQ => go E m' v Q hm' hE h7 hR fun G g1 g2 g3 g4 x hx => w3 G x v Q hx g2 g3 g4 fun F f1 f2 f3 f4 => hQ F (g1.trans f1) f2 f3 f4⟩
          · rw [z3, if_pos rfl, zok_some]
            refine ⟨((pCs_D a3).trans a5).trans (pCs_D a7), Or.inl ⟨rfl, _, z4, fun E m' v Q hm' => fault _ (fun E hE h7 hR => (y4 E hE h7 hR).mono fun F ⟨f1, f2⟩ => ⟨f1, ?_⟩) E m' v Q (by omega)⟩⟩
            rcases f2 with ⟨w, _⟩ | ⟨_, w⟩
            · exact absurd w z1
            · exact w
    · rw [if_neg q, if_neg (show ¬ (1 : Int32) = 0 by decide), zok_some]
      refine ⟨pCs_D a3, Or.inr ⟨rfl, W, h, ns, nw, d.cs a3, b3.2.2.2.2, fun E m' v Q hm' hE h7 hR hQ => ?_⟩⟩
      obtain ⟨m', rfl⟩ : ∃ x, m' = x + 1 := ⟨m' - 1, by omega⟩
      rw [fn_X12_alphabet_62, hE.2.2.2.1, if_pos rfl, hE.1.2.1, hE.2.2.1, if_pos (nI_le (by omega) (by omega))]
      exact hQ E agL.refl hE.2.2.2.1 hE.2.2.2.2 (hR.keep (by omega) (fun a b _ _ => a3 _ _ (by unfold pCs; omega)) fun _ _ _ => rfl)
end M9o
