/-! THE MATHEMATICS: the clauses' words, both -/
def aw (j : Nat) : List Nat := [[2, 15, 1, 18, 4], [19, 9, 7, 14], [1, 3, 18, 15, 19, 19], [4, 15, 23, 14], [3, 12, 5, 1, 14], [20, 21, 18, 14, 5, 4], [13, 9, 18, 18, 15, 18], [6, 1, 13, 9, 12, 25], [23, 15, 18, 4]].getD j []
theorem aw_c : ∀ j, j < 9 → z_lenS.getD j 0 = (aw j).length ∧ (aw j).length ≤ 6 ∧ 1 ≤ (aw j).length ∧ (∀ i, i < (aw j).length → z_ch j i = nI (96 + (aw j).getD i 0)) ∧ ∀ i, i < (aw j).length → 1 ≤ (aw j).getD i 0 ∧ (aw j).getD i 0 ≤ 26 := by decide +kernel
section M98
variable {D : zD} {n p : Nat} {B : Nat → Int32}
theorem sk_sk (hp : p ≤ n) : sk n B (sk n B p) = sk n B p := by
  have h1 := sk_le (B := B) hp
  have h2 := sk_le (B := B) h1.2
  rcases Nat.lt_or_ge (sk n B p) (sk n B (sk n B p)) with g | g
  · have := sk_no (n := n) (B := B) (p := sk n B p) (Nat.le_refl _) g
    exact absurd this (sk_yes (by omega))
  · omega
/-- clause kind j stands at p -/
def kd (n : Nat) (B : Nat → Int32) (p j : Nat) : Prop := wd n B p (aw j) ∧ ∀ i, i < j → ¬ wd n B p (aw i)
theorem c_word {j : Nat} (hj : j < 9) (h : cS n B p D) : zok (fn_X8_takesWord j D) fun q => ag pCs D q.2 ∧ ((wd n B (sk n B p) (aw j) ∧ q.1 = 1 ∧ cS n B (sk n B p + (aw j).length) q.2) ∨ (¬ wd n B (sk n B p) (aw j) ∧ q.1 = 0 ∧ cS n B (sk n B p) q.2)) := by
  obtain ⟨h1, h2, _, h3, _⟩ := aw_c j hj
  exact c_takesWord h1 (by omega) h3 h
theorem r_word {j : Nat} (hj : j < 9) {v1 v2 v3 v4 v5 v6 : Int32} (hs : fn_X12_six v1 v2 v3 v4 v5 v6 = some (nI (cdl (aw j)))) (h : rdS n B p D) : zok (fn_X12_isWord v1 v2 v3 v4 v5 v6 D) fun q => agL pRd D q.2 ∧ rdS n B (sk n B p) q.2 ∧ ((wd n B (sk n B p) (aw j) ∧ q.1 = 1) ∨ (¬ wd n B (sk n B p) (aw j) ∧ q.1 = 0)) := by
  obtain ⟨_, h2, _, _, h3⟩ := aw_c j hj
  exact r_isWord hs h2 h3 h
theorem r_kindHere (h : rdS n B p D) : zok (fn_X12_kindHere D) fun q => agL pRd D q.2 ∧ rdS n B (sk n B p) q.2 ∧ ((∃ j, j < 9 ∧ q.1 = nI j ∧ kd n B (sk n B p) j) ∨ (q.1 = -1 ∧ ∀ i, i < 9 → ¬ wd n B (sk n B p) (aw i))) := by
  have ss := sk_sk (B := B) h.2.1
  have fin : ∀ (E : zD) (j : Nat), j < 9 → agL pRd D E → rdS n B (sk n B p) E → wd n B (sk n B p) (aw j) → (∀ i, i < j → ¬ wd n B (sk n B p) (aw i)) → zok (some ((nI j, E) : Int32 × zD)) fun q => agL pRd D q.2 ∧ rdS n B (sk n B p) q.2 ∧ ((∃ j, j < 9 ∧ q.1 = nI j ∧ kd n B (sk n B p) j) ∨ (q.1 = -1 ∧ ∀ i, i < 9 → ¬ wd n B (sk n B p) (aw i))) := fun E j hj h1 h2 h3 h4 => zok_some.mpr ⟨h1, h2, Or.inl ⟨j, hj, rfl, h3, h4⟩⟩
  have up : ∀ (j : Nat), (∀ i, i < j → ¬ wd n B (sk n B p) (aw i)) → ¬ wd n B (sk n B p) (aw j) → ∀ i, i < j + 1 → ¬ wd n B (sk n B p) (aw i) := fun j h1 h2 i hi => by
    by_cases e : i = j
    · rw [e]; exact h2
    · exact h1 i (by omega)
  unfold fn_X12_kindHere
  have n0 : ∀ i, i < 0 → ¬ wd n B (sk n B p) (aw i) := fun i hi => absurd hi (Nat.not_lt_zero _)
  refine (r_word (j := 0) (by omega) rfl h).bind fun q1 ⟨a1, b1, o1⟩ => ?_
  rcases o1 with ⟨w1, x1⟩ | ⟨w1, x1⟩
  · rw [x1, if_neg (by decide)]; exact fin _ 0 (by omega) a1 b1 w1 n0
  have n1 := up 0 n0 w1
  rw [x1, if_pos rfl]
  refine (r_word (j := 1) (by omega) rfl b1).bind fun q2 ⟨a2, b2, o2⟩ => ?_
  rw [ss] at b2 o2
  have a2' := a1.trans a2
  rcases o2 with ⟨w2, x2⟩ | ⟨w2, x2⟩
  · rw [x2, if_neg (by decide)]; exact fin _ 1 (by omega) a2' b2 w2 n1
  have n2 := up 1 n1 w2
  rw [x2, if_pos rfl]
  refine (r_word (j := 2) (by omega) rfl b2).bind fun q3 ⟨a3, b3, o3⟩ => ?_
  rw [ss] at b3 o3
  have a3' := a2'.trans a3
  rcases o3 with ⟨w3, x3⟩ | ⟨w3, x3⟩
  · rw [x3, if_neg (by decide)]; exact fin _ 2 (by omega) a3' b3 w3 n2
  have n3 := up 2 n2 w3
  rw [x3, if_pos rfl]
  refine (r_word (j := 3) (by omega) rfl b3).bind fun q4 ⟨a4, b4, o4⟩ => ?_
  rw [ss] at b4 o4
  have a4' := a3'.trans a4
  rcases o4 with ⟨w4, x4⟩ | ⟨w4, x4⟩
  · rw [x4, if_neg (by decide)]; exact fin _ 3 (by omega) a4' b4 w4 n3
  have n4 := up 3 n3 w4
  rw [x4, if_pos rfl]
  refine (r_word (j := 4) (by omega) rfl b4).bind fun q5 ⟨a5, b5, o5⟩ => ?_
  rw [ss] at b5 o5
  have a5' := a4'.trans a5
  rcases o5 with ⟨w5, x5⟩ | ⟨w5, x5⟩
  · rw [x5, if_neg (by decide)]; exact fin _ 4 (by omega) a5' b5 w5 n4
  have n5 := up 4 n4 w5
  rw [x5, if_pos rfl]
  refine (r_word (j := 5) (by omega) rfl b5).bind fun q6 ⟨a6, b6, o6⟩ => ?_
  rw [ss] at b6 o6
  have a6' := a5'.trans a6
  rcases o6 with ⟨w6, x6⟩ | ⟨w6, x6⟩
  · rw [x6, if_neg (by decide)]; exact fin _ 5 (by omega) a6' b6 w6 n5
  have n6 := up 5 n5 w6
  rw [x6, if_pos rfl]
  refine (r_word (j := 6) (by omega) rfl b6).bind fun q7 ⟨a7, b7, o7⟩ => ?_
  rw [ss] at b7 o7
  have a7' := a6'.trans a7
  rcases o7 with ⟨w7, x7⟩ | ⟨w7, x7⟩
  · rw [x7, if_neg (by decide)]; exact fin _ 6 (by omega) a7' b7 w7 n6
  have n7 := up 6 n6 w7
  rw [x7, if_pos rfl]
  refine (r_word (j := 7) (by omega) rfl b7).bind fun q8 ⟨a8, b8, o8⟩ => ?_
  rw [ss] at b8 o8
  have a8' := a7'.trans a8
  rcases o8 with ⟨w8, x8⟩ | ⟨w8, x8⟩
  · rw [x8, if_neg (by decide)]; exact fin _ 7 (by omega) a8' b8 w8 n7
  have n8 := up 7 n7 w8
  rw [x8, if_pos rfl]
  refine (r_word (j := 8) (by omega) rfl b8).bind fun q9 ⟨a9, b9, o9⟩ => ?_
  rw [ss] at b9 o9
  have a9' := a8'.trans a9
  rcases o9 with ⟨w9, x9⟩ | ⟨w9, x9⟩
  · rw [x9, if_neg (by decide)]; exact fin _ 8 (by omega) a9' b9 w9 n8
  have n9 := up 8 n8 w9
  rw [x9, if_pos rfl, zok_some]
  exact ⟨a9', b9, Or.inr ⟨rfl, n9⟩⟩
end M98
