/-! THE MATHEMATICS: one clause, the class -/
section M9n
variable {D : zD} {n p s t j e W h ns nw : Nat} {B : Nat → Int32}
theorem bsm {α : Type} (x : Option α) : (x.bind fun y => some y) = x := by cases x <;> rfl
theorem c_room {D1 : zD} {K : zD → Option (Int32 × zD)} (hs : sk n B p = s) (ht : t ≤ 60) (d : dW W h ns nw D) (k : kd n B s j) (hj : j < 9) (hj2 : 2 ≤ j ∧ j ≤ 4 → 1 ≤ ns) (hc : cS n B e D1) (a1 : ag pCs D D1) (hK : t < 60 → zok (K D1) (clo n B p t W h ns nw D)) :
    zok ((fn_X1_hasRoom (nI t) (nI s) D1).bind fun q => (if q.1 = 0 then ((some ((0 : Int32), q.2))) else (K q.2))) (clo n B p t W h ns nw D) := by
  refine (c_hasRoom hc ht).bind fun q o => ?_
  rcases o with ⟨t1, rfl⟩ | ⟨t1, q1, q2, q3⟩
  · rw [if_neg (show ¬ ((1 : Int32), D1).1 = 0 by dsimp only; decide)]
    exact hK t1
  · rw [q1, if_pos rfl, zok_some]
    exact clo_bad hs ht d k hj (c := 3) (by unfold ckd; rw [if_neg (by omega), if_pos t1]) (by omega) rfl q2 (a1.trans q3)
theorem c_last {D1 : zD} {K : zD → Option (Int32 × zD)} (hs : sk n B p = s) (ht : t ≤ 60) (d : dW W h ns nw D) (k : kd n B s j) (hj : j < 9) (hj2 : 2 ≤ j ∧ j ≤ 4) (hc : cS n B e D1) (a1 : ag pCs D D1) (hK : t < 60 → 1 ≤ ns → zok (K D1) (clo n B p t W h ns nw D)) :
    zok ((fn_X1_hasLatest (nI s) D1).bind fun q38 => (if q38.1 = 0 then ((some ((0 : Int32), q38.2))) else ((fn_X1_hasRoom (nI t) (nI s) q38.2).bind fun q => (if q.1 = 0 then ((some ((0 : Int32), q.2))) else (K q.2))))) (clo n B p t W h ns nw D) := by
  have d1 := d.1
  refine (c_hasLatest hc (by rw [a1 _ _ (by unfold pCs; omega), d.2.1.2.2.1]) (by omega)).bind fun q o => ?_
  rcases o with ⟨t1, rfl⟩ | ⟨t1, q1, q2, q3⟩
  · rw [if_neg (show ¬ ((1 : Int32), D1).1 = 0 by dsimp only; decide)]
    exact c_room hs ht d k hj (fun _ => t1) hc a1 fun g => hK g t1
  · rw [q1, if_pos rfl, zok_some]
    exact clo_bad hs ht d k hj (c := 1) (by unfold ckd; rw [if_pos ⟨hj2.1, hj2.2, t1⟩]) (by omega) rfl q2 (a1.trans q3)
theorem c_blames {D1 : zD} {c : Nat} (hs : sk n B p = s) (ht : t ≤ 60) (d : dW W h ns nw D) (k : kd n B s j) (hj : j < 9) (hc : ckd j t ns nw = c) (c0 : c ≠ 0) (h1 : cS n B e D1) (a1 : ag pCs D D1) : zok (fn_X8_blame (nI c) (nI s) D1) (fun q => q.1 = 0 ∧ clo n B p t W h ns nw D (0, q.2)) :=
  (c_blame h1 c s).mono fun q ⟨q1, q2, q3⟩ => ⟨q1, clo_bad hs ht d k hj hc c0 rfl q2 (a1.trans q3)⟩
theorem c_clause (hc : cS n B p D) (d : dW W h ns nw D) (ht : t ≤ 60) (h0 : t = 0 → ns = 0 ∧ nw = 0) : zok (fn_X1_clause (nI t) D) (clo n B p t W h ns nw D) := by
  have d1 := d.1
  have up : ∀ (s j : Nat), (∀ i, i < j → ¬ wd n B s (aw i)) → ¬ wd n B s (aw j) → ∀ i, i < j + 1 → ¬ wd n B s (aw i) := fun s j h1 h2 i hi => by
    by_cases e : i = j
    · rw [e]; exact h2
    · exact h1 i (by omega)
  have ss := sk_sk (B := B) hc.2.1
  unfold fn_X1_clause
  refine (c_next hc).bind fun q1 ⟨x1, b0, a0⟩ => ?_
  rw [x1]
  generalize hs : sk n B p = s at *
  have n0 : ∀ i, i < 0 → ¬ wd n B s (aw i) := fun i hi => absurd hi (Nat.not_lt_zero _)
  refine (c_word (j := 0) (by omega) b0).bind fun q2 ⟨a2, oo⟩ => ?_
  rw [ss] at oo
  replace a2 := a0.trans a2
  rcases oo with ⟨w0, y0, o0⟩ | ⟨w0, y0, b1⟩
  · rw [y0, if_neg (by decide)]
    refine c_room (K := fun D => (fn_X1_size (nI t) (nI s) D).bind fun q => (if q.1 = 0 then ((some ((0 : Int32), q.2))) else ((some ((1 : Int32), q.2))))) hs ht d ⟨w0, n0⟩ (by omega) (by omega) o0 a2 fun g => ?_
    by_cases z : t = 0
    · obtain ⟨z1, z2⟩ := h0 z
      subst z z1 z2
      exact clo_ok hs g d ⟨w0, n0⟩ (by omega) (by decide) (fun E k => by
        unfold fn_X12_clause_129 rBrd
        rw [if_pos k]
        simp only [zlet_eq, bsm, Option.bind_assoc, Option.bind_some]
        rfl) a2 (bod_board o0 (d.cs a2) _)
    · unfold fn_X1_size
      rw [if_neg (fun r => z ((nLe0 _ (by omega)).mp r)), Option.bind_assoc]
      refine (show zok (fn_X8_blame (nI 4) (nI s) _) _ from c_blames hs ht d ⟨w0, n0⟩ (by omega) (c := 4) (by unfold ckd; rw [if_neg (by omega), if_neg (by omega), if_neg (by omega), if_neg (by omega), if_pos (by omega)]) (by omega) o0 a2).bind fun r ⟨r1, r2⟩ => ?_
      rw [r1, zcb_0, Option.bind_some, if_pos rfl, zok_some]
      exact r2
  rw [y0, if_pos rfl]
  have n1 := up s 0 n0 w0
  refine (c_word (j := 1) (by omega) b1).bind fun q3 ⟨a3, oo⟩ => ?_
  rw [ss] at oo
  replace a3 := a2.trans a3
  rcases oo with ⟨w1, y1, o1⟩ | ⟨w1, y1, b2⟩
  · rw [y1, if_neg (by decide)]
    refine c_room (K := fun D => (fn_X0_addSign 12 0 D).bind fun q58 => (if q58.1 = 0 then ((fn_X8_blame 3 (nI s) q58.2).bind fun q60 => (if q60.1 = 0 then ((some ((0 : Int32), q60.2))) else ((some ((1 : Int32), q60.2))))) else ((some ((1 : Int32), q58.2))))) hs ht d ⟨w1, n1⟩ (by omega) (by omega) o1 a3 fun g => ?_
    by_cases z : ns = 12
    · unfold fn_X0_addSign
      have e2 : gI q3.2 12 2 = nI ns := by rw [a3 _ _ (by unfold pCs; omega), d.2.1.2.2.1]
      rw [e2, if_neg (nI_pos (by omega)), if_neg (show ¬ nI ns < (12 : Int32) by rw [z]; decide), Option.bind_some, if_pos rfl]
      refine (show zok (fn_X8_blame (nI 3) (nI s) _) _ from c_blames hs ht d ⟨w1, n1⟩ (by omega) (c := 3) (by unfold ckd; rw [if_neg (by omega), if_neg (by omega), if_pos (by omega)]) (by omega) o1 a3).bind fun r ⟨r1, r2⟩ => ?_
      rw [r1, if_pos rfl, zok_some]
      exact r2
    · have y := clo_ok hs g d ⟨w1, n1⟩ (by omega) (by unfold ckd; rw [if_neg (by omega), if_neg (by omega), if_neg (by omega), if_neg (by omega), if_neg (by omega)]) (fun E k => by
        unfold fn_X12_clause_129
        rw [if_pos k]
        simp only [zlet_eq, bsm]
        rfl) a3 (bod_sign o1 (d.cs a3) (by omega))
      rw [c_addSign (ns := ns) (by rw [a3 _ _ (by unfold pCs; omega), d.2.1.2.2.1]) (by omega)] at y ⊢
      exact y
  rw [y1, if_pos rfl]
  have n2 := up s 1 n1 w1
  refine (c_word (j := 2) (by omega) b2).bind fun q4 ⟨a4, oo⟩ => ?_
  rw [ss] at oo
  replace a4 := a3.trans a4
  rcases oo with ⟨w2, y2, o2⟩ | ⟨w2, y2, b3⟩
  · rw [y2, if_neg (by decide)]
    exact c_last (K := fun D => (fn_X1_stroke 1 D).bind fun q => (if q.1 = 0 then ((some ((0 : Int32), q.2))) else ((some ((1 : Int32), q.2))))) hs ht d ⟨w2, n2⟩ (by omega) (by omega) o2 a4 fun g g2 => clo_ok hs g d ⟨w2, n2⟩ (by omega) (by unfold ckd; rw [if_neg (by omega), if_neg (by omega), if_neg (by omega), if_neg (by omega), if_neg (by omega)]) (fun E k => by
        unfold fn_X12_clause_129
        rw [if_pos k]
        simp only [zlet_eq, bsm]
        rfl) a4 (bod_stroke (dn := false) o2 (d.cs a4) g2)
  rw [y2, if_pos rfl]
  have n3 := up s 2 n2 w2
  refine (c_word (j := 3) (by omega) b3).bind fun q5 ⟨a5, oo⟩ => ?_
  rw [ss] at oo
  replace a5 := a4.trans a5
  rcases oo with ⟨w3, y3, o3⟩ | ⟨w3, y3, b4⟩
  · rw [y3, if_neg (by decide)]
    exact c_last (K := fun D => (fn_X1_stroke 0 D).bind fun q => (if q.1 = 0 then ((some ((0 : Int32), q.2))) else ((some ((1 : Int32), q.2))))) hs ht d ⟨w3, n3⟩ (by omega) (by omega) o3 a5 fun g g2 => clo_ok hs g d ⟨w3, n3⟩ (by omega) (by unfold ckd; rw [if_neg (by omega), if_neg (by omega), if_neg (by omega), if_neg (by omega), if_neg (by omega)]) (fun E k => by
        unfold fn_X12_clause_129
        rw [if_pos k]
        simp only [zlet_eq, bsm]
        rfl) a5 (bod_stroke (dn := true) o3 (d.cs a5) g2)
  rw [y3, if_pos rfl]
  have n4 := up s 3 n3 w3
  refine (c_word (j := 4) (by omega) b4).bind fun q6 ⟨a6, oo⟩ => ?_
  rw [ss] at oo
  replace a6 := a5.trans a6
  rcases oo with ⟨w4, y4, o4⟩ | ⟨w4, y4, b5⟩
  · rw [y4, if_neg (by decide)]
    exact c_last (K := fun D => (fn_X1_clean D).bind fun q => (if q.1 = 0 then ((some ((0 : Int32), q.2))) else ((some ((1 : Int32), q.2))))) hs ht d ⟨w4, n4⟩ (by omega) (by omega) o4 a6 fun g g2 => clo_ok hs g d ⟨w4, n4⟩ (by omega) (by unfold ckd; rw [if_neg (by omega), if_neg (by omega), if_neg (by omega), if_neg (by omega), if_neg (by omega)]) (fun E k => by
        unfold fn_X12_clause_129
        rw [if_pos k]
        simp only [zlet_eq, bsm]
        rfl) a6 (bod_clean o4 (d.cs a6) g2)
  rw [y4, if_pos rfl]
  have n5 := up s 4 n4 w4
  refine (c_word (j := 5) (by omega) b5).bind fun q7 ⟨a7, oo⟩ => ?_
  rw [ss] at oo
  replace a7 := a6.trans a7
  rcases oo with ⟨w5, y5, o5⟩ | ⟨w5, y5, b6⟩
  · rw [y5, if_neg (by decide)]
    refine c_room (K := fun D => (fn_X1_oneMore (nI s) 1 D).bind fun q => (if q.1 = 0 then ((some ((0 : Int32), q.2))) else ((some ((1 : Int32), q.2))))) hs ht d ⟨w5, n5⟩ (by omega) (by omega) o5 a7 fun g => ?_
    by_cases z : ns = 12
    · unfold fn_X1_oneMore
      have e2 : gI q7.2 12 2 = nI ns := by rw [a7 _ _ (by unfold pCs; omega), d.2.1.2.2.1]
      rw [e2, if_neg (show ¬ nI ns < (12 : Int32) by rw [z]; decide), Option.bind_assoc]
      refine (show zok (fn_X8_blame (nI 3) (nI s) _) _ from c_blames hs ht d ⟨w5, n5⟩ (by omega) (c := 3) (by unfold ckd; rw [if_neg (by omega), if_neg (by omega), if_pos (by omega)]) (by omega) o5 a7).bind fun r ⟨r1, r2⟩ => ?_
      rw [r1, zcb_0, Option.bind_some, if_pos rfl, zok_some]
      exact r2
    · exact clo_ok hs g d ⟨w5, n5⟩ (by omega) (by unfold ckd; rw [if_neg (by omega), if_neg (by omega), if_neg (by omega), if_neg (by omega), if_neg (by omega)]) (fun E k => by
        unfold fn_X12_clause_129
        rw [if_pos k]
        simp only [zlet_eq, bsm]
        rfl) a7 (bod_more (hv := true) o5 (d.cs a7) (by omega) _)
  rw [y5, if_pos rfl]
  have n6 := up s 5 n5 w5
  refine (c_word (j := 6) (by omega) b6).bind fun q8 ⟨a8, oo⟩ => ?_
  rw [ss] at oo
  replace a8 := a7.trans a8
  rcases oo with ⟨w6, y6, o6⟩ | ⟨w6, y6, b7⟩
  · rw [y6, if_neg (by decide)]
    refine c_room (K := fun D => (fn_X1_oneMore (nI s) 0 D).bind fun q => (if q.1 = 0 then ((some ((0 : Int32), q.2))) else ((some ((1 : Int32), q.2))))) hs ht d ⟨w6, n6⟩ (by omega) (by omega) o6 a8 fun g => ?_
    by_cases z : ns = 12
    · unfold fn_X1_oneMore
      have e2 : gI q8.2 12 2 = nI ns := by rw [a8 _ _ (by unfold pCs; omega), d.2.1.2.2.1]
      rw [e2, if_neg (show ¬ nI ns < (12 : Int32) by rw [z]; decide), Option.bind_assoc]
      refine (show zok (fn_X8_blame (nI 3) (nI s) _) _ from c_blames hs ht d ⟨w6, n6⟩ (by omega) (c := 3) (by unfold ckd; rw [if_neg (by omega), if_neg (by omega), if_pos (by omega)]) (by omega) o6 a8).bind fun r ⟨r1, r2⟩ => ?_
      rw [r1, zcb_0, Option.bind_some, if_pos rfl, zok_some]
      exact r2
    · exact clo_ok hs g d ⟨w6, n6⟩ (by omega) (by unfold ckd; rw [if_neg (by omega), if_neg (by omega), if_neg (by omega), if_neg (by omega), if_neg (by omega)]) (fun E k => by
        unfold fn_X12_clause_129
        rw [if_pos k]
        simp only [zlet_eq, bsm]
        rfl) a8 (bod_more (hv := false) o6 (d.cs a8) (by omega) _)
  rw [y6, if_pos rfl]
  have n7 := up s 6 n6 w6
  refine (c_word (j := 7) (by omega) b7).bind fun q9 ⟨a9, oo⟩ => ?_
  rw [ss] at oo
  replace a9 := a8.trans a9
  rcases oo with ⟨w7, y7, o7⟩ | ⟨w7, y7, b8⟩
  · rw [y7, if_neg (by decide)]
    refine c_room (K := fun D => (fn_X1_kin D).bind fun q => (if q.1 = 0 then ((some ((0 : Int32), q.2))) else ((some ((1 : Int32), q.2))))) hs ht d ⟨w7, n7⟩ (by omega) (by omega) o7 a9 fun g => ?_
    exact clo_ok hs g d ⟨w7, n7⟩ (by omega) (by unfold ckd; rw [if_neg (by omega), if_neg (by omega), if_neg (by omega), if_neg (by omega), if_neg (by omega)]) (fun E k => by
        unfold fn_X12_clause_129 rFam
        rw [if_pos k]
        simp only [zlet_eq, bsm, Option.bind_assoc]
        refine congrArg _ (funext fun D6 => ?_)
        rw [if_neg (show ¬ nI 7 = 0 by decide), if_pos (show sgn 7 = 0 by decide), if_pos (show (5 : Int32) ≤ nI 7 by decide), if_pos (show nI 7 = 7 by decide)]
        refine congrArg _ (funext fun q14 => ?_)
        refine congrArg _ (funext fun q15 => ?_)
        by_cases u : gI q15.2 102 5 = 0
        · rw [if_pos u, if_pos u]
          unfold zck
          split <;> rfl
        · rw [if_neg u, if_neg u]; rfl) a9 (bod_fam o7 (d.cs a9))
  rw [y7, if_pos rfl]
  have n8 := up s 7 n7 w7
  refine (c_word (j := 8) (by omega) b8).bind fun q10 ⟨a10, oo⟩ => ?_
  rw [ss] at oo
  replace a10 := a9.trans a10
  rcases oo with ⟨w8, y8, o8⟩ | ⟨w8, y8, b9⟩
  · rw [y8, if_neg (by decide)]
    refine c_room (K := fun D => (fn_X1_spelling (nI s) D).bind fun q => (if q.1 = 0 then ((some ((0 : Int32), q.2))) else ((some ((1 : Int32), q.2))))) hs ht d ⟨w8, n8⟩ (by omega) (by omega) o8 a10 fun g => ?_
    by_cases z : nw = 8
    · unfold fn_X1_spelling
      have e3 : gI q10.2 12 3 = nI nw := by rw [a10 _ _ (by unfold pCs; omega), d.2.1.2.2.2]
      rw [e3, if_neg (show ¬ nI nw < (8 : Int32) by rw [z]; decide), Option.bind_assoc]
      refine (show zok (fn_X8_blame (nI 3) (nI s) _) _ from c_blames hs ht d ⟨w8, n8⟩ (by omega) (c := 3) (by unfold ckd; rw [if_neg (by omega), if_neg (by omega), if_neg (by omega), if_pos (by omega)]) (by omega) o8 a10).bind fun r ⟨r1, r2⟩ => ?_
      rw [r1, zcb_0, Option.bind_some, if_pos rfl, zok_some]
      exact r2
    · exact clo_ok hs g d ⟨w8, n8⟩ (by omega) (by unfold ckd; rw [if_neg (by omega), if_neg (by omega), if_neg (by omega), if_neg (by omega), if_neg (by omega)]) (fun E k => by
        unfold fn_X12_clause_129
        rw [if_pos k]
        simp only [zlet_eq, bsm]
        rfl) a10 (bod_word o8 (d.cs a10) (by omega) _)
  rw [y8, if_pos rfl]
  have n9 := up s 8 n8 w8
  refine (show zok (fn_X8_blame (nI 1) (nI s) _) _ from c_blame b9 1 s).bind fun r ⟨r1, r2, r3⟩ => ?_
  rw [r1, zcb_0, zok_some]
  refine ⟨pCs_D (a10.trans r3), Or.inl ⟨rfl, _, r2, fun E hE h7 hR => ?_⟩⟩
  unfold fn_X12_clause
  refine (r_kindHere hE).bind fun q ⟨g1, g2, o⟩ => ?_
  rw [hs] at g2 o
  rcases o with ⟨i, i1, i2, i3⟩ | ⟨i1, i2⟩
  · exact absurd i3.1 (n9 i i1)
  · rw [i1, if_neg (by decide), if_neg (by decide), if_neg (by decide)]
    unfold fn_X12_clause_26 fn_X12_clause_48
    rw [if_pos rfl, g2.2.2.1]
    refine (show zok (fn_X12_wrong (nI 1) (nI s) _) _ from r_wrong (k := 1) (pl := s) g2 (by omega)).bind fun F ⟨f1, f2, _⟩ => ?_
    rw [r_129F f1, zok_some]
    exact ⟨pRd_s (g1.trans f2), f1⟩
end M9n
