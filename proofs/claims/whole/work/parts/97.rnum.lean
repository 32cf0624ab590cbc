/-! THE MATHEMATICS: reading the tape, the reference: numbers and words -/
def cd27 (e : Nat → Nat) (m : Nat) : Nat := zfo (fun i v => 27 * v + e i) m 0 0
def cdl (w : List Nat) : Nat := cd27 (fun i => w.getD i 0) w.length
theorem cd_next (e : Nat → Nat) (m : Nat) : cd27 e (m + 1) = 27 * cd27 e m + e m := by unfold cd27; rw [zfo_last, Nat.zero_add]
theorem cd_lt {e : Nat → Nat} : ∀ m, (∀ i, i < m → e i ≤ 26) → cd27 e m < 27 ^ m
  | 0, _ => by show 0 < 1; omega
  | m + 1, h => by
    have h1 := cd_lt m fun i hi => h i (by omega)
    have h2 := h m (by omega)
    rw [cd_next, Nat.pow_succ]
    omega
theorem cd_inj : ∀ (l m : Nat) {e f : Nat → Nat}, (∀ i, i < l → 1 ≤ e i ∧ e i ≤ 26) → (∀ i, i < m → 1 ≤ f i ∧ f i ≤ 26) → cd27 e l = cd27 f m → l = m ∧ ∀ i, i < l → e i = f i
  | 0, 0, _, _, _, _, _ => ⟨rfl, fun i hi => absurd hi (Nat.not_lt_zero _)⟩
  | 0, m + 1, e, f, _, h2, h => by
    have := h2 m (by omega)
    rw [cd_next] at h
    have h0 : cd27 e 0 = 0 := rfl
    omega
  | l + 1, 0, e, f, h1, _, h => by
    have := h1 l (by omega)
    rw [cd_next] at h
    have h0 : cd27 f 0 = 0 := rfl
    omega
  | l + 1, m + 1, e, f, h1, h2, h => by
    have a1 := h1 l (by omega)
    have a2 := h2 m (by omega)
    rw [cd_next, cd_next] at h
    obtain ⟨rfl, h3⟩ := cd_inj l m (fun i hi => h1 i (by omega)) (fun i hi => h2 i (by omega)) (show cd27 e l = cd27 f m by omega)
    refine ⟨rfl, fun i hi => ?_⟩
    by_cases q : i = l
    · subst q; omega
    · exact h3 i (by omega)
section M97
variable {D : zD} {n p : Nat} {B : Nat → Int32}
theorem r_small {i : Nat} (h : rB n B D) (hs : sml (tb n B i) = true) : ∃ b, 97 ≤ b ∧ b ≤ 122 ∧ tb n B i = nI b := by
  have hi : i < n := by
    rcases Nat.lt_or_ge i n with g | g
    · exact g
    · rw [tb_out g, show sml (-1) = false by decide] at hs; cases hs
  obtain ⟨_, b, b1, b2⟩ := h.2.2 i hi
  rw [tb_in hi, b2] at hs ⊢
  unfold sml at hs
  rw [decide_eq_true_eq, show (97 : Int32) = nI 97 from rfl, show (122 : Int32) = nI 122 from rfl, nLt _ _ (by omega) (by omega), nLt _ _ (by omega) (by omega)] at hs
  exact ⟨b, by omega, by omega, rfl⟩
theorem r_isWord {v1 v2 v3 v4 v5 v6 : Int32} {w : List Nat} (hs : fn_X12_six v1 v2 v3 v4 v5 v6 = some (nI (cdl w))) (hw : w.length ≤ 6) (hd : ∀ i, i < w.length → 1 ≤ w.getD i 0 ∧ w.getD i 0 ≤ 26) (h : rdS n B p D) : zok (fn_X12_isWord v1 v2 v3 v4 v5 v6 D) fun q => agL pRd D q.2 ∧ rdS n B (sk n B p) q.2 ∧ ((wd n B (sk n B p) w ∧ q.1 = 1) ∨ (¬ wd n B (sk n B p) w ∧ q.1 = 0)) := by
  have h500 := h.1.1
  unfold fn_X12_isWord fn_X12_wordHere
  rw [h.2.2.2.1, if_pos rfl, zok_bind, zok_bind]
  refine (r_blanks h).mono fun E ⟨e1, e2⟩ => ?_
  have hsk := sk_le (B := B) h.2.1
  have hlt := lt6_le (B := B) hsk.2
  generalize hS : sk n B p = s at *
  have hex : ∀ i, i < lt6 n B s - s → ∃ b, 97 ≤ b ∧ b ≤ 122 ∧ tb n B (s + i) = nI b := fun i hi => r_small e1.1 (lt6_no (p := s) (by omega) (by omega))
  have hed : ∀ i, i < lt6 n B s - s → 1 ≤ un (tb n B (s + i)) - 96 ∧ un (tb n B (s + i)) - 96 ≤ 26 := fun i hi => by
    obtain ⟨b, b1, b2, b3⟩ := hex i hi
    rw [b3, un_nI (by omega)]; omega
  have hpw : 27 ^ 6 < 387420490 := by decide
  have hwb : cdl w < 387420490 := by
    have h1 := cd_lt (e := fun i => w.getD i 0) w.length fun i hi => (hd i hi).2
    have h2 : 27 ^ w.length ≤ 27 ^ 6 := Nat.pow_le_pow_right (by decide) hw
    unfold cdl
    omega
  have hce : ∀ m, m ≤ 6 → m ≤ lt6 n B s - s → cd27 (fun i => un (tb n B (s + i)) - 96) m < 387420490 := fun m h6 hm => by
    have h1 := cd_lt (e := fun i => un (tb n B (s + i)) - 96) m fun i hi => (hed i (by omega)).2
    have h2 : 27 ^ m ≤ 27 ^ 6 := Nat.pow_le_pow_right (by decide) h6
    omega
  refine z_inv (lt6 n B s - s) (fun m j (v : Int32) => fn_X12_wordHere_8 m v (nI j) E) (fun j v => v = nI (cd27 (fun i => un (tb n B (s + i)) - 96) (min j 6))) _ ?_ ?_ 0 zFU (0 : Int32) (Nat.zero_le _) (zfu_gt (by omega)) rfl
  · intro m j v hj hv ih
    show zok (fn_X12_wordHere_8 (m + 1) v (nI j) E) _
    obtain ⟨b, b1, b2, b3⟩ := hex j hj
    have hsm := lt6_no (n := n) (B := B) (p := s) (i := s + j) (by omega) (by omega)
    have j6 : (6 : Int32) ≤ nI j ↔ 6 ≤ j := nLe 6 j (by omega) (by omega)
    rw [fn_X12_wordHere_8, e1.2.2.1, nI_add, r_byteAt e1.1 (by omega), Option.bind_some, r_isSmall, Option.bind_some, hsm, if_neg (show ¬ bI true = 0 by decide), Option.bind_some, b3, nI_1]
    by_cases q : 6 ≤ j
    · rw [if_pos (j6.mpr q)]
      exact ih _ (by rw [hv, show min (j + 1) 6 = min j 6 by omega])
    · have hc := hce j (by omega) (by omega)
      rw [if_neg (fun r => q (j6.mp r)), hv, show min j 6 = j by omega, show (27 : Int32) * nI (cd27 (fun i => un (tb n B (s + i)) - 96) j) = nI (27 * cd27 (fun i => un (tb n B (s + i)) - 96) j) from pk_mul 27 _, nI_add, show nI (27 * cd27 (fun i => un (tb n B (s + i)) - 96) j + b) - (97 : Int32) = nI (27 * cd27 (fun i => un (tb n B (s + i)) - 96) j + b - 97) from pk_sub (b := 97) (by omega), nI_1, zlet_eq]
      refine ih _ ?_
      rw [show min (j + 1) 6 = j + 1 by omega, cd_next, b3, un_nI (by omega)]
      congr 1
      omega
  · intro m v hv
    show zok (fn_X12_wordHere_8 (m + 1) v (nI (lt6 n B s - s)) E) _
    have hne : sml (tb n B (lt6 n B s)) = false := by
      rcases Nat.lt_or_ge (lt6 n B s) n with g | g
      · exact lt6_yes g
      · rw [tb_out g]; decide
    rw [fn_X12_wordHere_8, e1.2.2.1, nI_add, show s + (lt6 n B s - s) = lt6 n B s by omega, r_byteAt e1.1 (by omega), Option.bind_some, r_isSmall, Option.bind_some, hne, if_pos (show bI false = 0 from rfl)]
    unfold fn_X12_wordHere_61
    have j6 : nI (lt6 n B s - s) ≤ (6 : Int32) ↔ lt6 n B s - s ≤ 6 := nLe _ 6 (by omega) (by omega)
    by_cases q : lt6 n B s - s ≤ 6
    · rw [if_pos (j6.mpr q), zok_some, hs, Option.bind_some, hv, show min (lt6 n B s - s) 6 = lt6 n B s - s by omega]
      have hc := hce _ q (Nat.le_refl _)
      have jj := nEq (cd27 (fun i => un (tb n B (s + i)) - 96) (lt6 n B s - s)) (cdl w) (by omega) (by omega)
      by_cases r : cd27 (fun i => un (tb n B (s + i)) - 96) (lt6 n B s - s) = cdl w
      · rw [if_pos (jj.mpr r), zok_some]
        obtain ⟨l1, l2⟩ := cd_inj _ _ hed hd r
        refine ⟨e2, e1, Or.inl ⟨⟨l1, fun i hi => ?_⟩, rfl⟩⟩
        obtain ⟨b, b1, b2, b3⟩ := hex i (by omega)
        have := l2 i (by omega)
        rw [b3, un_nI (by omega)] at this
        rw [b3]
        congr 1
        omega
      · rw [if_neg (fun t => r (jj.mp t)), zok_some]
        refine ⟨e2, e1, Or.inr ⟨fun t => r ?_, rfl⟩⟩
        unfold cdl
        rw [t.1]
        unfold cd27
        refine zfo_cong fun i v _ hi => ?_
        have h1 := t.2 i (by omega)
        have h2 := hd i (by omega)
        show 27 * v + (un (tb n B (s + i)) - 96) = 27 * v + w.getD i 0
        rw [h1, un_nI (by omega)]
        omega
    · rw [if_neg (fun t => q (j6.mp t)), zok_some, hs, Option.bind_some, if_neg (fun t => (m1N _ (by omega)).mp t), zok_some]
      exact ⟨e2, e1, Or.inr ⟨fun t => by have := t.1; omega, rfl⟩⟩
theorem r_isWordF {f : Nat × Nat} (h : rdF f D) (v1 v2 v3 v4 v5 v6 : Int32) : fn_X12_isWord v1 v2 v3 v4 v5 v6 D = some (0, D) := by
  unfold fn_X12_isWord
  rw [if_neg (rdF_ne h)]
theorem r_numberOf (h : rdS n B p D) {lo H : Nat} (hlo : lo ≤ 1000) (hH : H ≤ 1000) : zok (fn_X12_number (nI lo) (nI H - 1) D) fun q => agL pRd D q.2 ∧ ((∃ f, nm n B lo H p = .inl f ∧ rdF f q.2) ∨ ∃ v e, nm n B lo H p = .inr (v, e) ∧ v < H ∧ q.1 = nI v ∧ rdS n B e q.2) := by
  have h500 := h.1.1
  have hIn : ∀ w, w ≤ 100000 → fn_X12_in (nI w) (nI lo) (nI H - 1) = some (if lo ≤ w ∧ w < H then 1 else 0) := fun w hw => by
    rw [x_in]
    congr 1
    have j1 := nLt w lo (by omega) (by omega)
    have j2 : nI H - 1 < nI w ↔ ¬ w < H := by
      rcases Nat.eq_zero_or_pos H with g | g
      · subst g
        rw [show nI 0 - 1 = -1 from rfl, m1Lt _ (by omega)]
        exact ⟨fun _ => Nat.not_lt_zero _, fun _ => trivial⟩
      · rw [nS1 _ g, nLt _ _ (by omega) (by omega)]; omega
    by_cases q1 : w < lo
    · rw [if_pos (j1.mpr q1), if_neg (by omega)]
    · rw [if_neg (fun r => q1 (j1.mp r))]
      by_cases q2 : w < H
      · rw [if_neg (fun r => j2.mp r q2), if_pos (by omega)]
      · rw [if_pos (j2.mpr q2), if_neg (by omega)]
  unfold fn_X12_number
  rw [h.2.2.2.1, if_pos rfl]
  refine (r_blanks h).bind fun E ⟨e1, e2⟩ => ?_
  have hsk := sk_le (B := B) h.2.1
  have hdg := dg_le (B := B) hsk.2
  unfold nm
  generalize hS : sk n B p = s at *
  generalize hE : dg n B s = e at *
  rw [zlet_eq, e1.2.2.1, r_byteAt e1.1 (by omega), Option.bind_some, r_isDigit, Option.bind_some]
  have hdig : ∀ i, s ≤ i → i < e → ∃ b, 48 ≤ b ∧ b ≤ 57 ∧ tb n B i = nI b := fun i h1 h2 => by
    have hd := dg_no (n := n) (B := B) (p := s) h1 (by omega)
    obtain ⟨_, b, b1, b2⟩ := e1.1.2.2 i (by omega)
    rw [tb_in (by omega), b2] at hd ⊢
    unfold dgt at hd
    rw [decide_eq_true_eq, show (48 : Int32) = nI 48 from rfl, show (57 : Int32) = nI 57 from rfl, nLt _ _ (by omega) (by omega), nLt _ _ (by omega) (by omega)] at hd
    exact ⟨b, by omega, by omega, rfl⟩
  have hend : dgt (tb n B e) = false := by
    rcases Nat.lt_or_ge e n with g | g
    · have := dg_yes (n := n) (B := B) (p := s) (by omega)
      rw [hE] at this
      exact this
    · rw [tb_out g]; decide
  by_cases r1 : e = s
  · rw [r1] at hend
    rw [hend, if_pos (show bI false = 0 from rfl), if_pos r1]
    refine (r_wrong (k := 1) (pl := s) e1 (by omega)).bind fun F ⟨f1, f2, f3⟩ => ?_
    rw [e1.2.2.1] at f3
    show zok (fn_X12_number_44 (nI lo) (nI H - 1) (4294967295 + 1) (nI s) (nI 0) F) _
    rw [fn_X12_number_44, f3, r_byteAt (e1.1.keep f2) (by omega), Option.bind_some, r_isDigit, Option.bind_some, hend, if_pos (show bI false = 0 from rfl)]
    unfold fn_X12_number_106
    have last : fn_X12_number_122 (nI lo) (nI H - 1) (nI 0) F = some (0, F) := by
      unfold fn_X12_number_122
      rw [if_neg (rdF_ne f1)]
    rw [hIn 0 (by omega), Option.bind_some, show (2 : Int32) = nI 2 from rfl, r_wrongF f1, Option.bind_some, last]
    have fin : zok (some ((0, F) : Int32 × zD)) fun q => agL pRd D q.2 ∧ ((∃ f, (Sum.inl (1, s) : (Nat × Nat) ⊕ (Nat × Nat)) = Sum.inl f ∧ rdF f q.2) ∨ ∃ v e, (Sum.inl (1, s) : (Nat × Nat) ⊕ (Nat × Nat)) = Sum.inr (v, e) ∧ v < H ∧ q.1 = nI v ∧ rdS n B e q.2) := zok_some.mpr ⟨e2.trans f2, Or.inl ⟨(1, s), rfl, f1⟩⟩
    split <;> exact fin
  · have hds := dg_no (n := n) (B := B) (p := s) (i := s) (Nat.le_refl _) (by omega)
    rw [hds, if_neg (show ¬ bI true = 0 by decide), if_neg r1]
    refine z_inv e (fun m i (t : Int32 × zD) => fn_X12_number_44 (nI lo) (nI H - 1) m (nI s) t.1 t.2) (fun i t => s ≤ i ∧ (∃ w, w ≤ 100000 ∧ t.1 = nI w ∧ vl n B s (i - s) = min 1000 w) ∧ rdS n B i t.2 ∧ agL pRd D t.2) _ ?_ ?_ s zFU ((0 : Int32), E) hdg.1 (by unfold zFU; omega) ⟨Nat.le_refl _, ⟨0, by omega, rfl, by rw [Nat.sub_self]; rfl⟩, e1, e2⟩
    · intro m i ⟨v, F⟩ hi ⟨g0, ⟨w, g1, g2, g3⟩, g4, g5⟩ ih
      replace g2 : v = nI w := g2
      replace g4 : rdS n B i F := g4
      replace g5 : agL pRd D F := g5
      show zok (fn_X12_number_44 (nI lo) (nI H - 1) (m + 1) (nI s) v F) _
      obtain ⟨b, b1, b2, b3⟩ := hdig i g0 hi
      have hd2 := dg_no (n := n) (B := B) (p := s) (i := i) g0 (by omega)
      have jj : nI (10 * w + b - 48) ≤ (100000 : Int32) ↔ 10 * w + b - 48 ≤ 100000 := nLe _ 100000 (by omega) (by omega)
      have nxt : ∀ x, x ≤ 100000 → min 1000 x = min 1000 (10 * w + b - 48) → zok (fn_X12_number_91 (nI lo) (nI H - 1) (fn_X12_number_44 (nI lo) (nI H - 1) m) (nI s) (nI x) F) _ := fun x hx hm => by
        unfold fn_X12_number_91
        rw [g4.2.2.1, nI_1, zlet_eq]
        refine ih (nI x, sI F 102 4 (nI (i + 1))) ⟨by omega, ⟨x, hx, rfl, ?_⟩, g4.pos (by omega), agL_sI g5 (by unfold pRd; omega)⟩
        rw [show i + 1 - s = i - s + 1 by omega, vl_next, show s + (i - s) = i by omega, b3, un_nI (by omega), g3, hm]
        omega
      rw [fn_X12_number_44, g4.2.2.1, r_byteAt g4.1 (by omega), Option.bind_some, r_isDigit, Option.bind_some, hd2, if_neg (show ¬ bI true = 0 by decide), Option.bind_some, b3, g2, show (10 : Int32) * nI w = nI (10 * w) from pk_mul 10 _, nI_add, show nI (10 * w + b) - (48 : Int32) = nI (10 * w + b - 48) from pk_sub (b := 48) (by omega), zlet_eq]
      by_cases q : 10 * w + b - 48 ≤ 100000
      · rw [if_pos (jj.mpr q)]
        exact nxt _ q rfl
      · rw [if_neg (fun r => q (jj.mp r))]
        exact nxt 100000 (Nat.le_refl _) (by omega)
    · intro m ⟨v, F⟩ ⟨g0, ⟨w, g1, g2, g3⟩, g4, g5⟩
      replace g2 : v = nI w := g2
      replace g4 : rdS n B e F := g4
      replace g5 : agL pRd D F := g5
      show zok (fn_X12_number_44 (nI lo) (nI H - 1) (m + 1) (nI s) v F) _
      rw [fn_X12_number_44, g4.2.2.1, r_byteAt g4.1 (by omega), Option.bind_some, r_isDigit, Option.bind_some, hend, if_pos (show bI false = 0 from rfl), g2]
      unfold fn_X12_number_106
      rw [hIn w g1, Option.bind_some, g3]
      by_cases q : lo ≤ w ∧ w < H
      · rw [if_pos q, if_neg (by decide)]
        unfold fn_X12_number_122
        rw [g4.2.2.2.1, if_pos rfl, zok_some, show min 1000 w = w by omega, if_pos q]
        exact ⟨g5, Or.inr ⟨_, _, rfl, q.2, rfl, g4⟩⟩
      · rw [if_neg q, if_pos rfl, if_neg (show ¬ (lo ≤ min 1000 w ∧ min 1000 w < H) by omega)]
        refine (r_wrong (k := 2) (pl := s) g4 (by omega)).bind fun G ⟨k1, k2, _⟩ => ?_
        unfold fn_X12_number_122
        rw [if_neg (rdF_ne k1), zok_some]
        exact ⟨g5.trans k2, Or.inl ⟨(2, s), rfl, k1⟩⟩
end M97
