/-! THE MATHEMATICS: reading the tape, the class: words and marks -/
def wd (n : Nat) (B : Nat → Int32) (p : Nat) (w : List Nat) : Prop := lt6 n B p - p = w.length ∧ ∀ i, i < w.length → tb n B (p + i) = nI (96 + w.getD i 0)
section M95
variable {D : zD} {n p : Nat} {B : Nat → Int32}
theorem lt6_no {i : Nat} (h1 : p ≤ i) (h2 : i < lt6 n B p) : sml (tb n B i) = true := by
  have := zff_no _ _ _ i h1 h2
  simpa using this
theorem lt6_yes (h : lt6 n B p < n) : sml (tb n B (lt6 n B p)) = false := by
  have h0 := zff_le (fun i => !sml (tb n B i)) (n - p) p
  have := zff_yes (fun i => !sml (tb n B i)) (n - p) p (by unfold lt6 at h; omega)
  simpa [lt6] using this
theorem c_letters (h : cB n B D) (hp : p ≤ n) : fn_X8_lettersFrom (nI p) D = some (nI (lt6 n B p - p)) := by
  have h500 := h.1
  have hl := lt6_le (B := B) hp
  unfold fn_X8_lettersFrom
  refine zok.eq (z_inv (lt6 n B p) (fun m i (_ : Unit) => fn_X8_lettersFrom_2 (nI p) D m (nI i)) (fun i _ => p ≤ i) _ ?_ ?_ p zFU () hl.1 (by unfold zFU; omega) (Nat.le_refl _))
  · intro m i _ hi g0 ih
    show zok (fn_X8_lettersFrom_2 (nI p) D (m + 1) (nI i)) _
    have hs := lt6_no g0 hi
    unfold sml at hs
    rw [decide_eq_true_eq] at hs
    rw [fn_X8_lettersFrom_2, h.2.1, if_neg (nI_ge (show i < n by omega) (by omega)), c_byteAt h (by omega), Option.bind_some, if_neg hs.1, Option.bind_some, if_neg hs.2, nI_1]
    exact ih () (by omega)
  · intro m _ g0
    show zok (fn_X8_lettersFrom_2 (nI p) D (m + 1) (nI (lt6 n B p))) _
    have fin : zok (some (nI (lt6 n B p) - nI p)) fun x => x = nI (lt6 n B p - p) := by rw [zok_some, nSn _ _ hl.1]
    rw [fn_X8_lettersFrom_2, h.2.1]
    by_cases q : n ≤ lt6 n B p
    · rw [if_pos (nI_le q (by omega))]; exact fin
    · have hs := lt6_yes (n := n) (B := B) (p := p) (by omega)
      unfold sml at hs
      rw [decide_eq_false_iff_not] at hs
      rw [if_neg (nI_ge (by omega) (by omega)), c_byteAt h (by omega), Option.bind_some]
      by_cases r : tb n B (lt6 n B p) < 97
      · rw [if_pos r]; exact fin
      · rw [if_neg r, Option.bind_some, if_pos (Classical.not_not.mp fun t => hs ⟨r, t⟩)]; exact fin
theorem cS.pos (h : cS n B p D) {e : Nat} (he : e ≤ n) : cS n B e (sI D 2 2 (nI e)) :=
  ⟨h.1.keep (ag.refl.sI (by unfold pCs; omega)), he, gI_eq, by rw [gI_nb (by omega)]; exact h.2.2.2.1, by rw [gI_nb (by omega)]; exact h.2.2.2.2⟩
theorem c_takesWord {i1 : Nat} {w : List Nat} (hw : z_lenS.getD i1 0 = w.length) (hw6 : w.length ≤ 8) (hc : ∀ j, j < w.length → z_ch i1 j = nI (96 + w.getD j 0)) (h : cS n B p D) : zok (fn_X8_takesWord i1 D) fun q => ag pCs D q.2 ∧ ((wd n B (sk n B p) w ∧ q.1 = 1 ∧ cS n B (sk n B p + w.length) q.2) ∨ (¬ wd n B (sk n B p) w ∧ q.1 = 0 ∧ cS n B (sk n B p) q.2)) := by
  have h500 := h.1.1
  unfold fn_X8_takesWord
  refine (c_next h).bind fun q ⟨q1, q2, q3⟩ => ?_
  have hsk := sk_le (B := B) h.2.1
  have hlt := lt6_le (B := B) hsk.2
  rw [q1, c_letters q2.1 hsk.2, Option.bind_some, hw, show Int32.ofNat w.length = nI w.length from rfl]
  generalize sk n B p = s at *
  have j1 := nEq (lt6 n B s - s) w.length (by omega) (by omega)
  by_cases r : lt6 n B s - s = w.length
  · rw [if_pos (j1.mpr r)]
    refine z_inv w.length (fun m j (_ : Unit) => fn_X8_takesWord_21 i1 m (nI s) (nI j) q.2) (fun j _ => ∀ i, i < j → tb n B (s + i) = nI (96 + w.getD i 0)) _ ?_ ?_ 0 zFU () (Nat.zero_le _) (zfu_gt (by omega)) fun i hi => absurd hi (Nat.not_lt_zero _)
    · intro m j _ hj g ih
      show zok (fn_X8_takesWord_21 i1 (m + 1) (nI s) (nI j) q.2) _
      rw [fn_X8_takesWord_21, hw, show Int32.ofNat w.length = nI w.length from rfl, if_neg (nI_ge hj (by omega)), nI_add, c_byteAt q2.1 (by omega), Option.bind_some, zck_nI hj (by omega), nI_clamp (by omega), hc j hj, nI_1]
      by_cases e : tb n B (s + j) = nI (96 + w.getD j 0)
      · rw [if_pos e]
        refine ih () fun i hi => ?_
        by_cases t : i = j
        · rw [t]; exact e
        · exact g i (by omega)
      · rw [if_neg e, zok_some]
        exact ⟨q3, Or.inr ⟨fun t => e (t.2 j hj), rfl, q2⟩⟩
    · intro m _ g
      show zok (fn_X8_takesWord_21 i1 (m + 1) (nI s) (nI w.length) q.2) _
      rw [fn_X8_takesWord_21, hw, show Int32.ofNat w.length = nI w.length from rfl, if_pos (nI_le (Nat.le_refl _) (by omega))]
      unfold fn_X8_takesWord_52
      rw [hw, show Int32.ofNat w.length = nI w.length from rfl, nI_add, zlet_eq, zok_some]
      exact ⟨q3.sI (by unfold pCs; omega), Or.inl ⟨⟨r, g⟩, rfl, q2.pos (by omega)⟩⟩
  · rw [if_neg (fun t => r (j1.mp t)), zok_some]
    exact ⟨q3, Or.inr ⟨fun t => r t.1, rfl, q2⟩⟩
theorem c_takesMark {m : Nat} (hm : m < 256) (h : cS n B p D) : zok (fn_X8_takesMark (nI m) D) fun q => ag pCs D q.2 ∧ ((tb n B (sk n B p) = nI m ∧ sk n B p < n ∧ q.1 = 1 ∧ cS n B (sk n B p + 1) q.2) ∨ (¬ tb n B (sk n B p) = nI m ∧ q.1 = 0 ∧ cS n B (sk n B p) q.2)) := by
  have h500 := h.1.1
  unfold fn_X8_takesMark
  refine (c_next h).bind fun q ⟨q1, q2, q3⟩ => ?_
  have hsk := sk_le (B := B) h.2.1
  rw [q1, c_byteAt q2.1 (by omega), Option.bind_some]
  generalize sk n B p = s at *
  by_cases r : tb n B s = nI m
  · have hs : s < n := by
      rcases Nat.lt_or_ge s n with g | g
      · exact g
      · rw [tb_out g] at r
        exact ((m1N _ (by omega)).mp r).elim
    rw [if_pos r, q2.2.2.1, nI_1, zlet_eq, zok_some]
    exact ⟨q3.sI (by unfold pCs; omega), Or.inl ⟨r, hs, rfl, q2.pos (by omega)⟩⟩
  · rw [if_neg r, zok_some]
    exact ⟨q3, Or.inr ⟨r, rfl, q2⟩⟩
theorem c_needsMark {m : Nat} (hm : m < 256) (h : cS n B p D) : zok (fn_X8_needsMark (nI m) D) fun q => ag pCs D q.2 ∧ ((tb n B (sk n B p) = nI m ∧ sk n B p < n ∧ q.1 = 1 ∧ cS n B (sk n B p + 1) q.2) ∨ (¬ tb n B (sk n B p) = nI m ∧ q.1 = 0 ∧ cF (1, sk n B p) q.2)) := by
  unfold fn_X8_needsMark
  refine (c_takesMark hm h).bind fun q ⟨q1, q2⟩ => ?_
  rcases q2 with ⟨r1, r2, r3, r4⟩ | ⟨r1, r2, r3⟩
  · rw [r3, if_neg (by decide), zok_some]
    exact ⟨q1, Or.inl ⟨r1, r2, rfl, r4⟩⟩
  · rw [r2, if_pos rfl, r3.2.2.1]
    refine (c_blame r3 1 (sk n B p)).bind fun x ⟨x1, x2, x3⟩ => ?_
    rw [x1, if_pos rfl, zok_some]
    exact ⟨q1.trans x3, Or.inr ⟨r1, rfl, x2⟩⟩
theorem c_ended (h : cS n B p D) : zok (fn_X8_ended D) fun q => ag pCs D q.2 ∧ cS n B (sk n B p) q.2 ∧ q.1 = if sk n B p < n then 0 else 1 := by
  have h500 := h.1.1
  unfold fn_X8_ended
  refine (c_next h).bind fun q ⟨q1, q2, q3⟩ => ?_
  have hsk := sk_le (B := B) h.2.1
  have j := nLt (sk n B p) n (by omega) (by omega)
  rw [q1, q2.1.2.1]
  by_cases r : sk n B p < n
  · rw [if_pos (j.mpr r), zok_some]
    exact ⟨q3, q2, by rw [if_pos r]⟩
  · rw [if_neg (fun t => r (j.mp t)), zok_some]
    exact ⟨q3, q2, by rw [if_neg r]⟩
end M95
