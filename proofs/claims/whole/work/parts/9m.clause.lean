/-! THE MATHEMATICS: one clause, both -/
def clo (n : Nat) (B : Nat → Int32) (p t W h ns nw : Nat) (D : zD) (q : Int32 × zD) : Prop :=
  ag pDc D q.2 ∧ ((q.1 = 0 ∧ ∃ f, cF f q.2 ∧ ∀ E, rdS n B p E → gI E 102 7 = nI t → dR W h ns nw D E → zok (fn_X12_clause E) fun F => agL pDs E F ∧ rdF f F) ∨
    (q.1 = 1 ∧ ∃ e a b c d, cS n B e q.2 ∧ dW a b c d q.2 ∧ t < 60 ∧ ∀ E, rdS n B p E → gI E 102 7 = nI t → dR W h ns nw D E → zok (fn_X12_clause E) fun F => agL pDs E F ∧
      ((tb n B (sk n B e) = 59 ∧ sk n B e < n ∧ gI F 102 7 = nI (t + 1) ∧ rdS n B (sk n B e + 1) F ∧ dR a b c d q.2 F) ∨ (¬ tb n B (sk n B e) = 59 ∧ rdF (1, sk n B e) F))))
def sgn (j : Nat) : Int32 := if j = 1 ∨ j = 5 ∨ j = 6 then 1 else 0
section M9m
variable {D : zD} {n p s t j W h ns nw : Nat} {B : Nat → Int32}
theorem kd_uni {i : Nat} (h1 : kd n B s i) (h2 : kd n B s j) : i = j := by
  rcases Nat.lt_trichotomy i j with g | g | g
  · exact absurd h1.1 (h2.2 i g)
  · exact g
  · exact absurd h2.1 (h1.2 j g)
theorem r_clause {Q : zD → Prop} {E : zD} (hs : sk n B p = s) (hE : rdS n B p E) (k : kd n B s j) (hj : j < 9) (hk : ∀ F, rdS n B s F → agL pRd E F → zok (fn_X12_clause_26 (nI j) (sgn j) F) Q) : zok (fn_X12_clause E) Q := by
  unfold fn_X12_clause
  refine (r_kindHere hE).bind fun q ⟨a1, a2, o⟩ => ?_
  rw [hs] at a2 o
  rcases o with ⟨i, i1, i2, i3⟩ | ⟨i1, i2⟩
  · have e := kd_uni i3 k
    subst e
    have z := hk _ a2 a1
    have e1 : nI i = (1 : Int32) ↔ i = 1 := nEq1 i (by omega)
    have e5 : nI i = (5 : Int32) ↔ i = 5 := nEq i 5 (by omega) (by omega)
    have e6 : nI i = (6 : Int32) ↔ i = 6 := nEq i 6 (by omega) (by omega)
    have y : (i = 1 ∨ i = 5 ∨ i = 6) → zok (fn_X12_clause_21 (nI i) q.2) Q := fun r => by
      unfold fn_X12_clause_21
      unfold sgn at z
      rw [if_pos r] at z
      exact z
    rw [i2]
    by_cases q1 : i = 1
    · rw [if_pos (e1.mpr q1)]; exact y (Or.inl q1)
    · rw [if_neg (fun r => q1 (e1.mp r))]
      by_cases q5 : i = 5
      · rw [if_pos (e5.mpr q5)]; exact y (Or.inr (Or.inl q5))
      · rw [if_neg (fun r => q5 (e5.mp r))]
        by_cases q6 : i = 6
        · rw [if_pos (e6.mpr q6)]; exact y (Or.inr (Or.inr q6))
        · rw [if_neg (fun r => q6 (e6.mp r))]
          unfold sgn at z
          rw [if_neg (by omega)] at z
          exact z
  · exact absurd k.1 (i2 j hj)
theorem pRd_s {E F : zD} (g : agL pRd E F) : agL pDs E F := g.mono fun _ _ q => by
  have := q.1
  unfold pDr at this
  unfold pRd
  omega
theorem pR7_s {E F : zD} (g : agL pR7 E F) : agL pDs E F := g.mono fun _ _ q => by
  have := q.1
  have := q.2
  unfold pDr at *
  unfold pR7 pRd
  omega
theorem sgn_v (j : Nat) : (sgn j = 0 ∧ ¬ (j = 1 ∨ j = 5 ∨ j = 6)) ∨ (sgn j = 1 ∧ (j = 1 ∨ j = 5 ∨ j = 6)) := by
  unfold sgn
  by_cases q : j = 1 ∨ j = 5 ∨ j = 6
  · rw [if_pos q]; exact Or.inr ⟨rfl, q⟩
  · rw [if_neg q]; exact Or.inl ⟨rfl, q⟩
theorem clo_bad {q : Int32 × zD} (hs : sk n B p = s) (ht : t ≤ 60) (d : dW W h ns nw D) (k : kd n B s j) (hj : j < 9) {c : Nat} (hc : ckd j t ns nw = c) (c0 : c ≠ 0) (q1 : q.1 = 0) (q2 : cF (c, s) q.2) (q3 : ag pCs D q.2) : clo n B p t W h ns nw D q := by
  have d1 := d.1
  refine ⟨pCs_D q3, Or.inl ⟨q1, _, q2, fun E hE h7 hR => r_clause hs hE k hj fun F hF g => ?_⟩⟩
  have z := (r_check hF (by rw [g.1 _ _ (by unfold pRd; omega), h7]) ht (by rw [g.1 _ _ (by unfold pRd; omega), hR.1.2.2.1]) (by omega) (by rw [g.1 _ _ (by unfold pRd; omega), hR.1.2.2.2]) (by omega) hj (sgn_v j)).2 (by rw [hc]; exact c0)
  rw [hc] at z
  exact z.mono fun G ⟨g1, g2⟩ => ⟨pRd_s (g.trans g1), g2⟩
theorem clo_ok {C : Option (Int32 × zD)} {R : zD → Option zD} {D1 : zD} (hs : sk n B p = s) (ht : t < 60) (d : dW W h ns nw D) (k : kd n B s j) (hj : j < 9) (hc : ckd j t ns nw = 0)
    (hR : ∀ E, gI E 102 5 = 0 → fn_X12_clause_129 (nI j) (sgn j) E = (fn_X12_skipWord E).bind fun D6 => (R (sI D6 102 7 (gI D6 102 7 + 1))).bind fun F => fn_X12_closes 59 F)
    (a1 : ag pCs D D1) (hb : bod n B (s + (aw j).length) W h ns nw C R D1) : zok (C.bind fun q => (if q.1 = 0 then ((some ((0 : Int32), q.2))) else ((some ((1 : Int32), q.2))))) (clo n B p t W h ns nw D) := by
  have d1 := d.1
  have hl : s ≤ n → lt6 n B s = s + (aw j).length := fun hsn => by
    have := k.1.1
    have := (lt6_le (B := B) hsn).1
    omega
  have key : ∀ E, rdS n B p E → gI E 102 7 = nI t → dR W h ns nw D E → ∀ (Q1 Q : zD → Prop), (∀ G, rdS n B (s + (aw j).length) G → agL pDs E G → gI G 102 7 = nI (t + 1) → dR W h ns nw D1 G → zok (R G) Q1) → (∀ F, Q1 F → zok (fn_X12_closes 59 F) Q) → zok (fn_X12_clause E) Q := by
    intro E hE h7 hdR Q1 Q k1 k2
    refine r_clause hs hE k hj fun F hF g => ?_
    have h7' : gI F 102 7 = nI t := by rw [g.1 _ _ (by unfold pRd; omega), h7]
    have z := (r_check hF h7' (by omega) (by rw [g.1 _ _ (by unfold pRd; omega), hdR.1.2.2.1]) (by omega) (by rw [g.1 _ _ (by unfold pRd; omega), hdR.1.2.2.2]) (by omega) hj (sgn_v j)).1 hc
    rw [z]
    refine r_129 (Q1 := Q1) hR hF h7' (fun G g1 g2 g3 => ?_) k2
    rw [hl hF.2.1] at g1
    refine k1 G g1 ((pRd_s g).trans (pR7_s g2)) g3 (hdR.keep (by omega) (fun a b _ _ => a1 _ _ (by unfold pCs; omega)) fun a b q => ?_)
    rw [g2.1 _ _ (by unfold pR7 pRd; omega), g.1 _ _ (by unfold pRd; omega)]
  refine hb.bind fun q ⟨b1, o⟩ => ?_
  rcases o with ⟨x1, f, x2, x3⟩ | ⟨x1, e, a, b, c, dd, x2, x3, x4⟩
  · rw [x1, if_pos rfl, zok_some]
    refine ⟨(pCs_D a1).trans b1, Or.inl ⟨rfl, f, x2, fun E hE h7 hdR => ?_⟩⟩
    refine key E hE h7 hdR (fun F => agL pDs E F ∧ rdF f F) _ (fun G g1 g2 g3 g4 => (x3 G g1 g4).mono fun F ⟨y1, y2⟩ => ⟨g2.trans (y1.mono fun _ _ q => q.1), y2⟩) fun F ⟨y1, y2⟩ => ?_
    rw [r_closesF y2, zok_some]
    exact ⟨y1, y2⟩
  · rw [x1, if_neg (show ¬ (1 : Int32) = 0 by decide), zok_some]
    refine ⟨(pCs_D a1).trans b1, Or.inr ⟨rfl, e, a, b, c, dd, x2, x3, ht, fun E hE h7 hdR => ?_⟩⟩
    refine key E hE h7 hdR (fun F => agL pDs E F ∧ gI F 102 7 = nI (t + 1) ∧ rdS n B e F ∧ dR a b c dd q.2 F) _ (fun G g1 g2 g3 g4 => (x4 G g1 g4).mono fun F ⟨y1, y2, y3⟩ => ⟨g2.trans (y1.mono fun _ _ q => q.1), by rw [y1.1 _ _ (by unfold pDr; omega), g3], y2, y3⟩) fun F ⟨y1, y2, y3, y4⟩ => ?_
    refine (show zok (fn_X12_closes (nI 59) F) _ from r_closes (m := 59) (by omega) y3).mono fun G ⟨w1, w2⟩ => ⟨y1.trans (pRd_s w1), ?_⟩
    have x31 := x3.1
    rcases w2 with ⟨w2, w3, w4⟩ | ⟨w2, w3⟩
    · exact Or.inl ⟨w2, w3, by rw [w1.1 _ _ (by unfold pRd; omega), y2], w4, y4.keep (by omega) (fun _ _ _ _ => rfl) fun a b q => w1.1 _ _ (by unfold pRd; omega)⟩
    · exact Or.inr ⟨w2, w3⟩
theorem c_hasRoom {e : Nat} (hc : cS n B e D) (ht : t ≤ 60) : zok (fn_X1_hasRoom (nI t) (nI s) D) fun q => (t < 60 ∧ q = (1, D)) ∨ (t = 60 ∧ q.1 = 0 ∧ cF (3, s) q.2 ∧ ag pCs D q.2) := by
  unfold fn_X1_hasRoom
  have e : nI t < (60 : Int32) ↔ t < 60 := nLt t 60 (by omega) (by omega)
  by_cases q : t < 60
  · rw [if_pos (e.mpr q), zok_some]; exact Or.inl ⟨q, rfl⟩
  · rw [if_neg (fun r => q (e.mp r))]
    refine (show zok (fn_X8_blame (nI 3) (nI s) D) _ from c_blame hc 3 s).bind fun r ⟨r1, r2, r3⟩ => ?_
    rw [r1, if_pos rfl, zok_some]
    exact Or.inr ⟨by omega, rfl, r2, r3⟩
theorem c_hasLatest {e : Nat} (hc : cS n B e D) (h2 : gI D 12 2 = nI ns) (hn : ns ≤ 12) : zok (fn_X1_hasLatest (nI s) D) fun q => (1 ≤ ns ∧ q = (1, D)) ∨ (ns = 0 ∧ q.1 = 0 ∧ cF (1, s) q.2 ∧ ag pCs D q.2) := by
  unfold fn_X1_hasLatest
  rw [h2]
  have e : (0 : Int32) < nI ns ↔ 0 < ns := nLt 0 ns (by omega) (by omega)
  by_cases q : 0 < ns
  · rw [if_pos (e.mpr q), zok_some]; exact Or.inl ⟨q, rfl⟩
  · rw [if_neg (fun r => q (e.mp r))]
    refine (show zok (fn_X8_blame (nI 1) (nI s) D) _ from c_blame hc 1 s).bind fun r ⟨r1, r2, r3⟩ => ?_
    rw [r1, if_pos rfl, zok_some]
    exact Or.inr ⟨by omega, rfl, r2, r3⟩
end M9m
