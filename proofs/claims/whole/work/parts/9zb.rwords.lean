/-! THE MATHEMATICS: the words of a rule, plain rules, both -/
def bw (j : Nat) : List Nat := [[14, 15, 20], [19, 9, 4, 5], [3, 15, 18, 14, 5, 18], [1, 14, 25], [6, 18, 15, 14, 20], [6, 15, 7], [1, 14, 4], [15, 18]].getD j []
theorem bw_c : ∀ j, j < 8 → z_lenS.getD (9 + j) 0 = (bw j).length ∧ (bw j).length ≤ 6 ∧ 1 ≤ (bw j).length ∧ (∀ i, i < (bw j).length → z_ch (9 + j) i = nI (96 + (bw j).getD i 0)) ∧ ∀ i, i < (bw j).length → 1 ≤ (bw j).getD i 0 ∧ (bw j).getD i 0 ≤ 26 := by decide +kernel
def pRl (k a b : Nat) : Prop := ¬ (a = 102 ∧ ((4 ≤ b ∧ b ≤ 6) ∨ b = 8 ∨ b = 27 ∨ b = 32 ∨ b = 33)) ∧ ¬ (a = 160 ∧ k ≤ b) ∧ ¬ (130 + k ≤ a ∧ a ≤ 159) ∧ a ≠ 161
def rR (n : Nat) (B : Nat → Int32) (p v k W h : Nat) (fl : Int32) (E : zD) : Prop := rdS n B p E ∧ gI E 102 8 = nI v ∧ gI E 102 27 = nI k ∧ gI E 102 14 = nI W ∧ gI E 102 15 = nI h ∧ gI E 102 33 = fl
def nes (s : Option (List Int32)) : Prop := ∀ l, s = some l → 1 ≤ l.length
def sgq (n : Nat) (B : Nat → Int32) (p W h v k : Nat) (R : zD → Option zD) (D : zD) (q : Int32 × zD) : Prop :=
  ag (pCl k) D q.2 ∧ ((q.1 = 0 ∧ ∃ f, cF f q.2 ∧ ∀ E, rR n B p v k W h (gI D 22 6) E → zok (R E) fun F => agL (pRl k) E F ∧ rdF f F) ∨
    (q.1 = 1 ∧ ∃ e s, p ≤ e ∧ cS n B e q.2 ∧ cV (27 + 2 * k) s q.2 ∧ okc (W * h) s ∧ nes s ∧ (gI D 22 6 = 1 → s = none) ∧ ∀ E, rR n B p v k W h (gI D 22 6) E → zok (R E) fun F => agL (pRl k) E F ∧ rdS n B e F ∧ gI F 102 8 = nI v ∧ gI F 102 27 = nI (k + 1) ∧ rV k s F))
def SG (n : Nat) (B : Nat → Int32) (W h v kb : Nat) (fC : Int32 → Int32 → zD → Option (Int32 × zD)) (fR : zD → Option zD) : Prop := ∀ k p D, k ≤ kb → cP n B p W h k D → zok (fC (nI v) (nI k) D) (sgq n B p W h v k fR D)
section M9zb
variable {D : zD} {n p e s W h k v j : Nat} {B : Nat → Int32} {R : zD → Option zD}
theorem c_word2 (hj : j < 8) (hc : cS n B p D) : zok (fn_X8_takesWord (9 + j) D) fun q => ag pCs D q.2 ∧ ((wd n B (sk n B p) (bw j) ∧ q.1 = 1 ∧ cS n B (sk n B p + (bw j).length) q.2) ∨ (¬ wd n B (sk n B p) (bw j) ∧ q.1 = 0 ∧ cS n B (sk n B p) q.2)) := by
  obtain ⟨h1, h2, _, h3, _⟩ := bw_c j hj
  exact c_takesWord h1 (by omega) h3 hc
theorem r_word2 (hj : j < 8) {v1 v2 v3 v4 v5 v6 : Int32} (hs : fn_X12_six v1 v2 v3 v4 v5 v6 = some (nI (cdl (bw j)))) (hd : rdS n B p D) : zok (fn_X12_isWord v1 v2 v3 v4 v5 v6 D) fun q => agL pRd D q.2 ∧ rdS n B (sk n B p) q.2 ∧ ((wd n B (sk n B p) (bw j) ∧ q.1 = 1) ∨ (¬ wd n B (sk n B p) (bw j) ∧ q.1 = 0)) := by
  obtain ⟨_, h2, _, _, h3⟩ := bw_c j hj
  exact r_isWord hs h2 h3 hd
theorem wd_len {w : List Nat} (hs : s ≤ n) (hw : wd n B s w) : lt6 n B s = s + w.length ∧ s + w.length ≤ n := by
  have h1 := lt6_le (B := B) hs
  have h2 := hw.1
  omega
def rPl (j : Nat) : zD → Option zD := if j = 0 then rSide else if j = 1 then rCor else if j = 2 then rAnB else if j = 3 then rFro else rFog
theorem r_plain {Q : zD → Prop} (hd : rdS n B s D) (ss : sk n B s = s) (hj : j < 5) (hw : wd n B s (bw (j + 1))) (hn : ∀ i, i < j → ¬ wd n B s (bw (i + 1))) (hk : ∀ E, rdS n B (s + (bw (j + 1)).length) E → agL pRd D E → zok (rPl j E) Q) : zok (fn_X12_plain D) Q := by
  have sn := hd.2.1
  have hl := (wd_len sn hw).1
  unfold fn_X12_plain
  refine (r_word2 (j := 1) (by omega) rfl hd).bind fun q1 ⟨a1, d1, o1⟩ => ?_
  rw [ss] at d1 o1
  rcases o1 with ⟨w1, x1⟩ | ⟨w1, x1⟩
  · rw [x1, if_neg (show ¬ (1 : Int32) = 0 by decide)]
    by_cases q : j = 0
    · subst q
      refine (r_skipWord d1).bind fun E ⟨e1, e2⟩ => ?_
      rw [hl] at e1
      exact hk E e1 (a1.trans e2)
    · exact absurd w1 (hn 0 (by omega))
  rw [x1, if_pos rfl]
  have j1 : 1 ≤ j := by
    rcases Nat.eq_zero_or_pos j with g | g
    · subst g; exact absurd hw w1
    · exact g
  refine (r_word2 (j := 2) (by omega) rfl d1).bind fun q2 ⟨a2, d2, o2⟩ => ?_
  rw [ss] at d2 o2
  have a2' := a1.trans a2
  rcases o2 with ⟨w2, x2⟩ | ⟨w2, x2⟩
  · rw [x2, if_neg (show ¬ (1 : Int32) = 0 by decide)]
    by_cases q : j = 1
    · subst q
      refine (r_skipWord d2).bind fun E ⟨e1, e2⟩ => ?_
      rw [hl] at e1
      exact hk E e1 (a2'.trans e2)
    · exact absurd w2 (hn 1 (by omega))
  rw [x2, if_pos rfl]
  have j2 : 2 ≤ j := by
    rcases (show j = 1 ∨ 2 ≤ j by omega) with g | g
    · subst g; exact absurd hw w2
    · exact g
  refine (r_word2 (j := 3) (by omega) rfl d2).bind fun q3 ⟨a3, d3, o3⟩ => ?_
  rw [ss] at d3 o3
  have a3' := a2'.trans a3
  rcases o3 with ⟨w3, x3⟩ | ⟨w3, x3⟩
  · rw [x3, if_neg (show ¬ (1 : Int32) = 0 by decide)]
    by_cases q : j = 2
    · subst q
      refine (r_skipWord d3).bind fun E ⟨e1, e2⟩ => ?_
      rw [hl] at e1
      exact hk E e1 (a3'.trans e2)
    · exact absurd w3 (hn 2 (by omega))
  rw [x3, if_pos rfl]
  have j3 : 3 ≤ j := by
    rcases (show j = 2 ∨ 3 ≤ j by omega) with g | g
    · subst g; exact absurd hw w3
    · exact g
  refine (r_word2 (j := 4) (by omega) rfl d3).bind fun q4 ⟨a4, d4, o4⟩ => ?_
  rw [ss] at d4 o4
  have a4' := a3'.trans a4
  rcases o4 with ⟨w4, x4⟩ | ⟨w4, x4⟩
  · rw [x4, if_neg (show ¬ (1 : Int32) = 0 by decide)]
    by_cases q : j = 3
    · subst q
      refine (r_skipWord d4).bind fun E ⟨e1, e2⟩ => ?_
      rw [hl] at e1
      exact hk E e1 (a4'.trans e2)
    · exact absurd w4 (hn 3 (by omega))
  rw [x4, if_pos rfl]
  have j4 : j = 4 := by
    rcases (show j = 3 ∨ j = 4 by omega) with g | g
    · subst g; exact absurd hw w4
    · exact g
  subst j4
  refine (r_word2 (j := 5) (by omega) rfl d4).bind fun q5 ⟨a5, d5, o5⟩ => ?_
  rw [ss] at d5 o5
  have a5' := a4'.trans a5
  rcases o5 with ⟨w5, x5⟩ | ⟨w5, x5⟩
  · rw [x5, if_neg (show ¬ (1 : Int32) = 0 by decide)]
    refine (r_skipWord d5).bind fun E ⟨e1, e2⟩ => ?_
    rw [hl] at e1
    exact hk E e1 (a5'.trans e2)
  · exact absurd hw w5
theorem r_plainN (hd : rdS n B s D) (ss : sk n B s = s) (hn : ∀ i, i < 5 → ¬ wd n B s (bw (i + 1))) : zok (fn_X12_plain D) fun F => agL pRd D F ∧ rdF (1, s) F := by
  unfold fn_X12_plain
  refine (r_word2 (j := 1) (by omega) rfl hd).bind fun q1 ⟨a1, d1, o1⟩ => ?_
  rw [ss] at d1 o1
  rcases o1 with ⟨w1, x1⟩ | ⟨w1, x1⟩
  · exact absurd w1 (hn 0 (by omega))
  rw [x1, if_pos rfl]
  refine (r_word2 (j := 2) (by omega) rfl d1).bind fun q2 ⟨a2, d2, o2⟩ => ?_
  rw [ss] at d2 o2
  rcases o2 with ⟨w1, x1⟩ | ⟨w1, x1⟩
  · exact absurd w1 (hn 1 (by omega))
  rw [x1, if_pos rfl]
  refine (r_word2 (j := 3) (by omega) rfl d2).bind fun q3 ⟨a3, d3, o3⟩ => ?_
  rw [ss] at d3 o3
  rcases o3 with ⟨w1, x1⟩ | ⟨w1, x1⟩
  · exact absurd w1 (hn 2 (by omega))
  rw [x1, if_pos rfl]
  refine (r_word2 (j := 4) (by omega) rfl d3).bind fun q4 ⟨a4, d4, o4⟩ => ?_
  rw [ss] at d4 o4
  rcases o4 with ⟨w1, x1⟩ | ⟨w1, x1⟩
  · exact absurd w1 (hn 3 (by omega))
  rw [x1, if_pos rfl]
  refine (r_word2 (j := 5) (by omega) rfl d4).bind fun q5 ⟨a5, d5, o5⟩ => ?_
  rw [ss] at d5 o5
  rcases o5 with ⟨w1, x1⟩ | ⟨w1, x1⟩
  · exact absurd w1 (hn 4 (by omega))
  rw [x1, if_pos rfl, d5.2.2.1, bsm]
  exact (show zok (fn_X12_wrong (nI 1) (nI s) q5.2) _ from r_wrong (k := 1) (pl := s) d5 (by omega)).mono fun F ⟨f1, f2, _⟩ => ⟨(((a1.trans a2).trans a3).trans a4).trans (a5.trans f2), f1⟩
theorem pRd_rl {E : zD} (g : agL pRd D E) : agL (pRl k) D E := g.mono (by unfold pRl pRd; intros; omega)
theorem pPl_rl {E : zD} (g : agL pPl D E) : agL (pRl k) D E := g.mono (by unfold pRl pPl; intros; omega)
theorem pLy_rl {E : zD} (hk : k ≤ 29) (g : agL (pLy k) D E) : agL (pRl k) D E := g.mono (by unfold pRl pLy; intros; omega)
theorem c_at7 (hk : k ≤ 14) (D : zD) : fn_X7_at (nI k) D = some (27 + 2 * k) := by
  unfold fn_X7_at
  rw [if_neg (nI_pos (by omega)), if_neg (show ¬ Int32.ofNat 15 ≤ nI k from nI_ge (a := k) (b := 15) (by omega) (by omega)), zck_nI (by omega) (by omega), zck_nI (by omega) (by omega), nI_clamp (by omega)]
theorem cV_fl {a : Nat} {t : Option (List Int32)} (hV : cV a t D) : (gI D 22 6 = 0 ∧ t ≠ none) ∨ (gI D 22 6 = 1 ∧ t = none) := by
  cases t with
  | none => exact Or.inr ⟨hV.1, rfl⟩
  | some l => exact Or.inl ⟨hV.1, fun r => by cases r⟩
theorem rV_fl {t : Option (List Int32)} (hV : rV k t D) : (gI D 102 33 = 0 ∧ t ≠ none) ∨ (gI D 102 33 = 1 ∧ t = none) := by
  cases t with
  | none => exact Or.inr ⟨hV.1, rfl⟩
  | some l => exact Or.inl ⟨hV.1, fun r => by cases r⟩
theorem fl_eq {a : Nat} {t : Option (List Int32)} {E : zD} (h1 : cV a t D) (h2 : rV k t E) : gI E 102 33 = gI D 22 6 := by
  rcases cV_fl h1 with ⟨x, y⟩ | ⟨x, y⟩
  · rcases rV_fl h2 with ⟨z, _⟩ | ⟨z, w⟩
    · rw [x, z]
    · exact absurd w y
  · rcases rV_fl h2 with ⟨z, w⟩ | ⟨z, w⟩
    · exact absurd y w
    · rw [x, z]
theorem cl0_z {fl : Int32} {E : zD} (h : gI E 102 33 = fl) : cl0s E = zst fl := by
  unfold cl0s zst
  rw [h]
/-- the reference's plain rule as a whole -/
def rPlain (D : zD) : Option zD := (fn_X12_clearMade D).bind fun D7 => (fn_X12_plain D7).bind fun D8 => (if (gI D8 102 5) = 0 then ((fn_X12_lays D8).bind fun D10 => (some D10)) else ((some D8)))
theorem pl_sg {q : Int32 × zD} (hf : gI D 22 6 = 0 ∨ gI D 22 6 = 1) (ss : sk n B s = s) (hj : j < 5) (hw : wd n B s (bw (j + 1))) (hn : ∀ i, i < j → ¬ wd n B s (bw (i + 1))) (hk : k ≤ 14) (hq : plq n B (s + (bw (j + 1)).length) W h k (rPl j) D q) : sgq n B s W h v k rPlain D q := by
  obtain ⟨g, o⟩ := hq
  have go : ∀ (E : zD) (Q1 Q : zD → Prop), rR n B s v k W h (gI D 22 6) E → (∀ G, rP n B (s + (bw (j + 1)).length) W h (zst (gI D 22 6)) G → agL (pRl k) E G → gI G 102 8 = nI v → gI G 102 27 = nI k → zok (rPl j G) Q1) → (∀ G, Q1 G → zok (if (gI G 102 5) = 0 then ((fn_X12_lays G).bind fun D10 => (some D10)) else ((some G))) Q) → zok (rPlain E) Q := by
    intro E Q1 Q hE k1 k2
    unfold rPlain
    refine (r_clearMade (by rw [hE.2.2.2.2.2]; exact hf)).bind fun G ⟨g1, g2⟩ => ?_
    rw [cl0_z hE.2.2.2.2.2] at g1
    refine (r_plain (hE.1.mk g2) ss hj hw hn fun F f1 f2 => k1 F ⟨f1, ?_, ?_, g1.keep f2⟩ ((pPl_rl (pMk_l g2)).trans (pRd_rl f2)) ?_ ?_).bind k2
    · rw [f2.1 _ _ (by unfold pRd; omega), g2.1 _ _ (by unfold pMk; omega), hE.2.2.2.1]
    · rw [f2.1 _ _ (by unfold pRd; omega), g2.1 _ _ (by unfold pMk; omega), hE.2.2.2.2.1]
    · rw [f2.1 _ _ (by unfold pRd; omega), g2.1 _ _ (by unfold pMk; omega), hE.2.1]
    · rw [f2.1 _ _ (by unfold pRd; omega), g2.1 _ _ (by unfold pMk; omega), hE.2.2.1]
  rcases o with ⟨q1, f, q2, q3⟩ | ⟨q1, e, t, q2, q3, q4, q5, q6, q8, q7⟩
  · refine ⟨g, Or.inl ⟨q1, f, q2, fun E hE => go E (fun F => agL (pRl k) E F ∧ rdF f F) _ hE (fun G g1 g2 _ _ => (q3 G g1).mono fun F ⟨f1, f2⟩ => ⟨g2.trans (pPl_rl f1), f2⟩) fun G ⟨g1, g2⟩ => ?_⟩⟩
    rw [if_neg (rdF_ne g2), zok_some]
    exact ⟨g1, g2⟩
  · refine ⟨g, Or.inr ⟨q1, e, t, by omega, q3, q4, q5, q6, fun hf1 => ?_, fun E hE => go E (fun F => agL (pRl k) E F ∧ rdS n B e F ∧ rM t F ∧ gI F 102 8 = nI v ∧ gI F 102 27 = nI k) _ hE (fun G g1 g2 g3 g4 => (q7 G g1).mono fun F ⟨f1, f2, f3⟩ => ⟨g2.trans (pPl_rl f1), f2, f3, by rw [f1.1 _ _ (by unfold pPl; omega), g3], by rw [f1.1 _ _ (by unfold pPl; omega), g4]⟩) fun G ⟨g1, g2, g3, g4, g5⟩ => ?_⟩⟩
    · exact q8 hf1
    · rw [g2.2.2.2.1, if_pos rfl, bsm]
      refine (r_lays g3 g5 (by omega)).mono fun F ⟨f1, f2, f3⟩ => ⟨g1.trans (pLy_rl (by omega) f3), g2.keep fun a b r => f3.1 _ _ (by unfold pLy; omega), by rw [f3.1 _ _ (by unfold pLy; omega), g4], f2, f1⟩
end M9zb
