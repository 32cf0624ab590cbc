/-! THE MATHEMATICS: a word's letters, the class -/
def spG (n : Nat) (B : Nat → Int32) (ns s : Nat) : Prop := lt6 n B s - s ≤ 6 ∧ ∀ j, j < lt6 n B s - s → un (tb n B (s + j)) - 97 < ns
def pSp (nw a b : Nat) : Prop := ¬ (a = 2 ∧ 2 ≤ b ∧ b ≤ 4) ∧ ¬ (a = 12 ∧ b = 3) ∧ ¬ (a = 15 ∧ nw * 6 ≤ b) ∧ ¬ (a = 16 ∧ b = nw)
section M9c
variable {D : zD} {n p ns nw : Nat} {B : Nat → Int32}
theorem c_small {i : Nat} (h : cB n B D) (hs : sml (tb n B i) = true) : ∃ b, 97 ≤ b ∧ b ≤ 122 ∧ tb n B i = nI b := by
  have hi : i < n := by
    rcases Nat.lt_or_ge i n with g | g
    · exact g
    · rw [tb_out g, show sml (-1) = false by decide] at hs; cases hs
  obtain ⟨b, b1, b2⟩ := cB_lt h hi
  rw [tb_in hi, b2] at hs ⊢
  unfold sml at hs
  rw [decide_eq_true_eq, show (97 : Int32) = nI 97 from rfl, show (122 : Int32) = nI 122 from rfl, nLt _ _ (by omega) (by omega), nLt _ _ (by omega) (by omega)] at hs
  exact ⟨b, by omega, by omega, rfl⟩
theorem c_spelling (h : cS n B p D) (h3 : gI D 12 3 = nI nw) (hw : nw < 8) (h2 : gI D 12 2 = nI ns) (hn : ns ≤ 12) (v1 : Int32) : zok (fn_X1_spelling v1 D) fun q => ag (pSp nw) D q.2 ∧ ((lt6 n B (sk n B p) = sk n B p ∧ q.1 = 0 ∧ cF (1, sk n B p) q.2) ∨ (lt6 n B (sk n B p) ≠ sk n B p ∧ ¬ spG n B ns (sk n B p) ∧ q.1 = 0 ∧ cF (2, sk n B p) q.2) ∨ (lt6 n B (sk n B p) ≠ sk n B p ∧ spG n B ns (sk n B p) ∧ q.1 = 1 ∧ cS n B (lt6 n B (sk n B p)) q.2 ∧ gI q.2 12 3 = nI (nw + 1) ∧ gI q.2 16 nw = nI (lt6 n B (sk n B p) - sk n B p) ∧ ∀ j, j < lt6 n B (sk n B p) - sk n B p → gI q.2 15 (nw * 6 + j) = nI (un (tb n B (sk n B p + j)) - 97))) := by
  have h500 := h.1.1
  unfold fn_X1_spelling
  rw [h3, if_pos (show nI nw < (8 : Int32) from nI_lt (b := 8) hw (by omega))]
  refine (c_next h).bind fun q ⟨q1, q2, q3⟩ => ?_
  have hsk := sk_le (B := B) h.2.1
  have hlt := lt6_le (B := B) hsk.2
  have g3 : ag (pSp nw) D q.2 := q3.mono (by unfold pSp pCs; intros; omega)
  rw [q1, c_letters q2.1 hsk.2, Option.bind_some]
  generalize sk n B p = s at *
  generalize hL : lt6 n B s = e at *
  have j0 := nEq0 (e - s) (by omega)
  by_cases r0 : e = s
  · rw [if_pos (j0.mpr (by omega))]
    refine (c_blame q2 1 s).bind fun x ⟨x1, x2, x3⟩ => ?_
    rw [x1, zcb_0, zok_some]
    exact ⟨g3.trans (x3.mono (by unfold pSp pCs; intros; omega)), Or.inl ⟨r0, rfl, x2⟩⟩
  · rw [if_neg (fun t => r0 (by have := j0.mp t; omega))]
    have j6 : nI (e - s) ≤ (6 : Int32) ↔ e - s ≤ 6 := nLe _ 6 (by omega) (by omega)
    by_cases r6 : e - s ≤ 6
    · rw [if_pos (j6.mpr r6)]
      refine z_inv (e - s) (fun m j (E : zD) => fn_X1_spelling_72 v1 m (nI s) (nI (e - s)) (nI j) E) (fun j E => cS n B s E ∧ ag (pSp nw) D E ∧ gI E 12 3 = nI nw ∧ (∀ i, i < j → un (tb n B (s + i)) - 97 < ns) ∧ ∀ i, i < j → gI E 15 (nw * 6 + i) = nI (un (tb n B (s + i)) - 97)) _ ?_ ?_ 0 zFU q.2 (Nat.zero_le _) (zfu_gt (by omega)) ⟨q2, g3, by rw [q3 _ _ (by unfold pCs; omega), h3], fun i hi => absurd hi (Nat.not_lt_zero _), fun i hi => absurd hi (Nat.not_lt_zero _)⟩
      · intro m j E hj ⟨k1, k2, k3, k4, k5⟩ ih
        show zok (fn_X1_spelling_72 v1 (m + 1) (nI s) (nI (e - s)) (nI j) E) _
        obtain ⟨b, b1, b2, b3⟩ := c_small k1.1 (lt6_no (n := n) (B := B) (p := s) (i := s + j) (by omega) (by omega))
        have e2 : gI E 12 2 = nI ns := by rw [k2 _ _ (by unfold pSp; omega), h2]
        have jn := nLe ns (b - 97) (by omega) (by omega)
        rw [fn_X1_spelling_72, if_neg (nI_ge hj (by omega)), nI_add, c_byteAt k1.1 (by omega), Option.bind_some, b3, show nI b - (97 : Int32) = nI (b - 97) from pk_sub (b := 97) (by omega), zlet_eq]
        unfold fn_X0_has
        rw [if_neg (nI_pos (by omega)), e2]
        by_cases r : ns ≤ b - 97
        · rw [if_pos (jn.mpr r), Option.bind_some, if_pos rfl]
          unfold fn_X1_spelling_120
          refine (c_blame k1 2 s).bind fun x ⟨x1, x2, x3⟩ => ?_
          rw [x1, zcb_0, zok_some]
          refine ⟨k2.trans (x3.mono (by unfold pSp pCs; intros; omega)), Or.inr (Or.inl ⟨r0, fun t => ?_, rfl, x2⟩)⟩
          have := t.2 j (by rw [hL]; exact hj)
          rw [b3, un_nI (by omega)] at this
          omega
        · rw [if_neg (fun t => r (jn.mp t)), if_neg (show ¬ (12 : Int32) ≤ nI (b - 97) from nI_ge (b := 12) (by omega) (by omega)), Option.bind_some, if_neg (by decide)]
          unfold fn_X0_addLetter
          rw [k3, if_neg (nI_pos (by omega)), if_neg (show ¬ (8 : Int32) ≤ nI nw from nI_ge (b := 8) (by omega) (by omega)), if_neg (nI_pos (by omega)), if_pos (show nI j < (6 : Int32) from nI_lt (b := 6) (by omega) (by omega)), show nI nw * (6 : Int32) = nI (nw * 6) from pk_mul nw 6, nI_add, zck_nI (by omega) (by omega), nI_clamp (by omega), zlet_eq, Option.bind_some]
          dsimp only
          rw [if_neg (by decide), nI_1]
          refine ih _ ⟨⟨⟨k1.1.1, by rw [gI_na (by omega)]; exact k1.1.2.1, fun i hi => by rw [gI_na (by omega)]; exact k1.1.2.2 i hi⟩, k1.2.1, by rw [gI_na (by omega)]; exact k1.2.2.1, by rw [gI_na (by omega)]; exact k1.2.2.2.1, by rw [gI_na (by omega)]; exact k1.2.2.2.2⟩, k2.sI (by unfold pSp; omega), by rw [gI_na (by omega), k3], fun i hi => ?_, fun i hi => ?_⟩
          · by_cases t : i = j
            · rw [t, b3, un_nI (by omega)]; omega
            · exact k4 i (by omega)
          · rw [gI_if]
            by_cases t : i = j
            · rw [if_pos (by rw [t]), t, b3, un_nI (by omega)]
            · rw [if_neg (by omega)]; exact k5 i (by omega)
      · intro m E ⟨k1, k2, k3, k4, k5⟩
        show zok (fn_X1_spelling_72 v1 (m + 1) (nI s) (nI (e - s)) (nI (e - s)) E) _
        rw [fn_X1_spelling_72, if_pos (nI_le (Nat.le_refl _) (by omega))]
        unfold fn_X1_spelling_136 fn_X8_jump
        rw [nI_add, show s + (e - s) = e by omega, k1.1.2.1, zmn_n _ _ (by omega) (by omega), ← nI_0, zmx_n _ _ (by omega) (by omega), Nat.min_eq_left hlt.2, Nat.zero_max, zlet_eq, Option.bind_some]
        unfold fn_X0_endWord
        rw [gI_na (by omega), k3, if_neg (nI_pos (by omega)), if_pos (show nI nw < (8 : Int32) from nI_lt (b := 8) hw (by omega)), zck_nI (by omega) (by omega), nI_clamp (by omega), zlet_eq, gI_na (by omega), gI_na (by omega), k3, nI_1, zlet_eq, Option.bind_some, zcb_1, zok_some]
        have c1 := k1.pos hlt.2
        refine ⟨((k2.sI (by unfold pSp; omega)).sI (by unfold pSp; omega)).sI (by unfold pSp; omega), Or.inr (Or.inr ⟨r0, ⟨by rw [hL]; exact r6, by rw [hL]; exact k4⟩, rfl, ⟨?_, hlt.2, ?_, ?_, ?_⟩, gI_eq, ?_, fun j hj => ?_⟩)⟩
        · exact ⟨c1.1.1, by rw [gI_na (by omega), gI_na (by omega)]; exact c1.1.2.1, fun i hi => by rw [gI_na (by omega), gI_na (by omega)]; exact c1.1.2.2 i hi⟩
        · rw [gI_na (by omega), gI_na (by omega)]; exact c1.2.2.1
        · rw [gI_na (by omega), gI_na (by omega)]; exact c1.2.2.2.1
        · rw [gI_na (by omega), gI_na (by omega)]; exact c1.2.2.2.2
        · rw [gI_na (by omega)]; exact gI_eq
        · rw [gI_na (by omega), gI_na (by omega), gI_na (by omega)]; exact k5 j hj
    · rw [if_neg (fun t => r6 (j6.mp t))]
      refine (c_blame q2 2 s).bind fun x ⟨x1, x2, x3⟩ => ?_
      rw [x1, zcb_0, zok_some]
      exact ⟨g3.trans (x3.mono (by unfold pSp pCs; intros; omega)), Or.inr (Or.inl ⟨r0, fun t => r6 (by rw [← hL]; exact t.1), rfl, x2⟩)⟩
end M9c
