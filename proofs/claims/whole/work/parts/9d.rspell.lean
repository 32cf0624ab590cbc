/-! THE MATHEMATICS: a word's letters, the reference -/
def pRw (nw a b : Nat) : Prop := ¬ (a = 102 ∧ 4 ≤ b ∧ b ≤ 6) ∧ ¬ (a = 102 ∧ b = 13) ∧ ¬ (a = 111 + nw) ∧ ¬ (a = 108 ∧ b = nw)
section M9d
variable {D : zD} {n p ns nw : Nat} {B : Nat → Int32}
theorem r_readsWord (h : rdS n B p D) (h13 : gI D 102 13 = nI nw) (hw : nw < 8) (h12 : gI D 102 12 = nI ns) (hn : ns ≤ 12) : zok (fn_X12_readsWord D) fun E => agL (pRw nw) D E ∧ ((lt6 n B (sk n B p) = sk n B p ∧ rdF (1, sk n B p) E) ∨ (lt6 n B (sk n B p) ≠ sk n B p ∧ ¬ spG n B ns (sk n B p) ∧ rdF (2, sk n B p) E) ∨ (lt6 n B (sk n B p) ≠ sk n B p ∧ spG n B ns (sk n B p) ∧ rdS n B (lt6 n B (sk n B p)) E ∧ gI E 102 13 = nI (nw + 1) ∧ gI E 108 nw = nI (lt6 n B (sk n B p) - sk n B p) ∧ ∀ j, j < lt6 n B (sk n B p) - sk n B p → gI E (111 + nw) j = nI (un (tb n B (sk n B p + j)) - 97))) := by
  have h500 := h.1.1
  unfold fn_X12_readsWord
  refine (r_blanks h).bind fun E ⟨e1, e2⟩ => ?_
  have hsk := sk_le (B := B) h.2.1
  have hlt := lt6_le (B := B) hsk.2
  have g3 : agL (pRw nw) D E := e2.mono (by unfold pRw pRd; intros; omega)
  generalize sk n B p = s at *
  have hend : sml (tb n B (lt6 n B s)) = false := by
    rcases Nat.lt_or_ge (lt6 n B s) n with g | g
    · exact lt6_yes g
    · rw [tb_out g]; decide
  rw [zlet_eq, e1.2.2.1, r_byteAt e1.1 (by omega), Option.bind_some, r_isSmall, Option.bind_some]
  generalize hL : lt6 n B s = e at *
  by_cases r0 : e = s
  · rw [r0] at hend
    rw [hend, if_pos (show bI false = 0 from rfl)]
    refine (r_wrong (k := 1) (pl := s) e1 (by omega)).bind fun F ⟨f1, f2, f3⟩ => ?_
    rw [e1.2.2.1] at f3
    show zok (fn_X12_readsWord_36 (4294967295 + 1) (nI s) (nI 0) 1 F) _
    rw [fn_X12_readsWord_36, f3, r_byteAt (e1.1.keep f2) (by omega), Option.bind_some, r_isSmall, Option.bind_some, hend, if_pos (show bI false = 0 from rfl)]
    unfold fn_X12_readsWord_123 fn_X12_readsWord_133
    rw [if_neg (by decide), if_neg (rdF_ne f1), zok_some]
    exact ⟨g3.trans (f2.mono (by unfold pRw pRd; intros; omega)), Or.inl ⟨r0, f1⟩⟩
  · have hs0 := lt6_no (n := n) (B := B) (p := s) (i := s) (Nat.le_refl _) (by omega)
    rw [hs0, if_neg (show ¬ bI true = 0 by decide)]
    refine z_inv (e - s) (fun m j (t : Int32 × zD) => fn_X12_readsWord_36 m (nI s) (nI j) t.1 t.2) (fun j t => rdS n B (s + j) t.2 ∧ agL (pRw nw) D t.2 ∧ gI t.2 102 13 = nI nw ∧ ((t.1 = 1 ∧ j ≤ 6 ∧ (∀ i, i < j → un (tb n B (s + i)) - 97 < ns) ∧ ∀ i, i < j → gI t.2 (111 + nw) i = nI (un (tb n B (s + i)) - 97)) ∨ (t.1 = 0 ∧ ¬ spG n B ns s))) _ ?_ ?_ 0 zFU ((1 : Int32), E) (Nat.zero_le _) (zfu_gt (by omega)) ⟨e1, g3, by rw [e2.1 _ _ (by unfold pRd; omega), h13], Or.inl ⟨rfl, by omega, fun i hi => absurd hi (Nat.not_lt_zero _), fun i hi => absurd hi (Nat.not_lt_zero _)⟩⟩
    · intro m j ⟨v3, F⟩ hj ⟨k1, k2, k3, k4⟩ ih
      replace k1 : rdS n B (s + j) F := k1
      replace k2 : agL (pRw nw) D F := k2
      replace k3 : gI F 102 13 = nI nw := k3
      show zok (fn_X12_readsWord_36 (m + 1) (nI s) (nI j) v3 F) _
      have hsm := lt6_no (n := n) (B := B) (p := s) (i := s + j) (by omega) (by omega)
      obtain ⟨b, b1, b2, b3⟩ := r_small k1.1 hsm
      have q12 : gI F 102 12 = nI ns := by rw [k2.1 _ _ (by unfold pRw; omega), h12]
      have j6 : (6 : Int32) ≤ nI j ↔ 6 ≤ j := nLe 6 j (by omega) (by omega)
      have jn := nLe ns (b - 97) (by omega) (by omega)
      rw [fn_X12_readsWord_36, k1.2.2.1, r_byteAt k1.1 (by omega), Option.bind_some, r_isSmall, Option.bind_some, hsm, if_neg (show ¬ bI true = 0 by decide), Option.bind_some, b3, show nI b - (97 : Int32) = nI (b - 97) from pk_sub (b := 97) (by omega), zlet_eq, q12]
      -- the step on
      have on : ∀ w G, rdS n B (s + j) G → agL (pRw nw) D G → gI G 102 13 = nI nw → ((w = 1 ∧ j + 1 ≤ 6 ∧ (∀ i, i < j + 1 → un (tb n B (s + i)) - 97 < ns) ∧ ∀ i, i < j + 1 → gI G (111 + nw) i = nI (un (tb n B (s + i)) - 97)) ∨ (w = 0 ∧ ¬ spG n B ns s)) → zok (fn_X12_readsWord_107 (fn_X12_readsWord_36 m) (nI s) (nI j) w G) _ := fun w G o1 o2 o3 o4 => by
        unfold fn_X12_readsWord_107
        rw [o1.2.2.1, nI_1, nI_1, zlet_eq]
        refine ih (w, sI G 102 4 (nI (s + j + 1))) ⟨o1.pos (by omega), agL_sI o2 (by unfold pRw; omega), by rw [gI_nb (by omega)]; exact o3, ?_⟩
        rcases o4 with ⟨x1, x2, x3, x4⟩ | x
        · exact Or.inl ⟨x1, x2, x3, fun i hi => by rw [gI_na (by omega)]; exact x4 i hi⟩
        · exact Or.inr x
      have st : ∀ w, ((w = 1 ∧ v3 = 1 ∧ j < 6 ∧ b - 97 < ns) ∨ (w = 0 ∧ ¬ spG n B ns s)) → zok (fn_X12_readsWord_87 (fn_X12_readsWord_36 m) (nI s) (nI j) (nI (b - 97)) w F) _ := fun w hw' => by
        unfold fn_X12_readsWord_87
        by_cases q : 6 ≤ j
        · rw [if_pos (j6.mpr q)]
          refine on w F k1 k2 k3 ?_
          rcases hw' with x | x
          · omega
          · exact Or.inr x
        · rw [if_neg (fun t => q (j6.mp t)), k3, zck_nI (by omega) (by omega), zck_nI (by omega) (by omega), nI_clamp (by omega), nI_clamp (by omega), zlet_eq]
          refine on w _ ⟨⟨k1.1.1, by rw [gI_na (by omega)]; exact k1.1.2.1, fun i hi => by rw [gI_na (by omega)]; exact k1.1.2.2 i hi⟩, k1.2.1, by rw [gI_na (by omega)]; exact k1.2.2.1, by rw [gI_na (by omega)]; exact k1.2.2.2.1, by rw [gI_na (by omega)]; exact k1.2.2.2.2⟩ (agL_sI k2 (by unfold pRw; omega)) (by rw [gI_na (by omega)]; exact k3) ?_
          rcases hw' with ⟨x1, x2, x3, x4⟩ | x
          · rcases k4 with ⟨_, y1, y2, y3⟩ | ⟨y, _⟩
            · refine Or.inl ⟨x1, by omega, fun i hi => ?_, fun i hi => ?_⟩
              · by_cases t : i = j
                · rw [t, b3, un_nI (by omega)]; omega
                · exact y2 i (by omega)
              · rw [gI_if]
                by_cases t : i = j
                · rw [if_pos t, t, b3, un_nI (by omega)]
                · rw [if_neg t]; exact y3 i (by omega)
            · replace y : v3 = 0 := y
              rw [x2] at y; cases y
          · exact Or.inr x
      rcases k4 with ⟨y, y1, y2, y3⟩ | ⟨y, y1⟩
      · replace y : v3 = 1 := y
        subst y
        rw [if_neg (by decide)]
        by_cases q : 6 ≤ j
        · rw [if_pos (j6.mpr q)]
          unfold fn_X12_readsWord_86
          exact st 0 (Or.inr ⟨rfl, fun t => by have := t.1; rw [hL] at this; omega⟩)
        · rw [if_neg (fun t => q (j6.mp t))]
          by_cases r : ns ≤ b - 97
          · rw [if_pos (jn.mpr r)]
            unfold fn_X12_readsWord_86
            refine st 0 (Or.inr ⟨rfl, fun t => ?_⟩)
            have := t.2 j (by rw [hL]; exact hj)
            rw [b3, un_nI (by omega)] at this
            omega
          · rw [if_neg (fun t => r (jn.mp t))]
            exact st 1 (Or.inl ⟨rfl, rfl, by omega, by omega⟩)
      · replace y : v3 = 0 := y
        subst y
        rw [if_pos rfl]
        unfold fn_X12_readsWord_86
        exact st 0 (Or.inr ⟨rfl, y1⟩)
    · intro m ⟨v3, F⟩ ⟨k1, k2, k3, k4⟩
      replace k1 : rdS n B (s + (e - s)) F := k1
      replace k2 : agL (pRw nw) D F := k2
      replace k3 : gI F 102 13 = nI nw := k3
      rw [show s + (e - s) = e by omega] at k1
      show zok (fn_X12_readsWord_36 (m + 1) (nI s) (nI (e - s)) v3 F) _
      rw [fn_X12_readsWord_36, k1.2.2.1, r_byteAt k1.1 (by omega), Option.bind_some, r_isSmall, Option.bind_some, hend, if_pos (show bI false = 0 from rfl)]
      unfold fn_X12_readsWord_123
      rcases k4 with ⟨y, y1, y2, y3⟩ | ⟨y, y1⟩
      · replace y : v3 = 1 := y
        subst y
        rw [if_neg (by decide)]
        unfold fn_X12_readsWord_133
        rw [k1.2.2.2.1, if_pos rfl, k3, zck_nI hw (by omega), nI_clamp (by omega), zlet_eq, gI_na (by omega), k3, nI_1, zlet_eq, zok_some]
        refine ⟨agL_sI (agL_sI k2 (by unfold pRw; omega)) (by unfold pRw; omega), Or.inr (Or.inr ⟨r0, ⟨by rw [hL]; exact y1, by rw [hL]; exact y2⟩, ⟨⟨k1.1.1, by rw [gI_nb (by omega), gI_na (by omega)]; exact k1.1.2.1, fun i hi => by rw [gI_na (by omega), gI_na (by omega)]; exact k1.1.2.2 i hi⟩, k1.2.1, by rw [gI_nb (by omega), gI_na (by omega)]; exact k1.2.2.1, by rw [gI_nb (by omega), gI_na (by omega)]; exact k1.2.2.2.1, by rw [gI_nb (by omega), gI_na (by omega)]; exact k1.2.2.2.2⟩, gI_eq, by rw [gI_na (by omega), gI_eq], fun j hj => by rw [gI_na (by omega), gI_na (by omega)]; exact y3 j hj⟩)⟩
      · replace y : v3 = 0 := y
        subst y
        rw [if_pos rfl]
        refine (r_wrong (k := 2) (pl := s) k1 (by omega)).bind fun G ⟨f1, f2, _⟩ => ?_
        unfold fn_X12_readsWord_133
        rw [if_neg (rdF_ne f1), zok_some]
        exact ⟨k2.trans (f2.mono (by unfold pRw pRd; intros; omega)), Or.inr (Or.inl ⟨r0, y1, f1⟩)⟩
end M9d
