/-! THE MATHEMATICS: rule as a whole, both -/
section M9zh
variable {D : zD} {P : Nat → Nat} {n W h c : Nat} {B : Nat → Int32}
theorem cnt_one {f : Nat → Int32} : ∀ {c i : Nat}, i < c → 0 < cnt f c (f i)
  | 0, _, h => absurd h (Nat.not_lt_zero _)
  | c + 1, i, h => by
    rw [cnt_next]
    by_cases q : f c = f i
    · rw [if_pos q]; omega
    · rw [if_neg q]
      exact cnt_one (by
        rcases Nat.lt_or_ge i c with g | g
        · exact g
        · exact absurd (by rw [show i = c by omega]) q)
/-- the class's text -/
theorem c_rule7 (hc : cS n B 0 D) (hb : 2 ≤ W ∧ W ≤ 6 ∧ 2 ≤ h ∧ h ≤ 5) : zok (fn_X7_parse (nI W) (nI h) D) fun q => ag pKc D q.2 ∧ gI q.2 2 1 = gI D 2 1 ∧ gI q.2 0 17 = gI D 0 17 ∧
    ((q.1 = 0 ∧ ∃ f, cF f q.2 ∧ ∀ (E : zD) (v1 : Int32) (Q : Int32 × zD → Prop), rR n B 0 0 0 W h 0 E → (∀ F, agL (pRl 0) E F → rdF f F → zok (fn_X12_rule_95 v1 F) Q) → zok ((fn_X12_orsT E).bind fun D7 => (fn_X12_blanks D7).bind fun D8 => (if (gI D8 102 5) = 0 then ((if (gI D8 102 2) ≤ (gI D8 102 4) then ((fn_X12_rule_72 v1 D8)) else ((fn_X12_wrong (1 : Int32) (gI D8 102 4) D8).bind fun D29 => (fn_X12_rule_72 v1 D29)))) else ((fn_X12_rule_72 v1 D8)))) Q) ∨
     (q.1 = 1 ∧ ∃ l, okl (W * h) l ∧ 1 ≤ l.length ∧ cL 27 l q.2 ∧ gI q.2 2 4 = -1 ∧ ∀ (E : zD) (v1 : Int32) (Q : Int32 × zD → Prop), rR n B 0 0 0 W h 0 E → (∀ F, agL (pRl 0) E F → gI F 102 5 = 0 → gI F 102 6 = -1 → rL 0 l F → zok (fn_X12_rule_95 v1 F) Q) → zok ((fn_X12_orsT E).bind fun D7 => (fn_X12_blanks D7).bind fun D8 => (if (gI D8 102 5) = 0 then ((if (gI D8 102 2) ≤ (gI D8 102 4) then ((fn_X12_rule_72 v1 D8)) else ((fn_X12_wrong (1 : Int32) (gI D8 102 4) D8).bind fun D29 => (fn_X12_rule_72 v1 D29)))) else ((fn_X12_rule_72 v1 D8)))) Q)) := by
  unfold fn_X7_parse
  rw [zlet_eq, zlet_eq, zlet_eq]
  have h500 := hc.1.1
  generalize hX : sI (sI (sI D 22 4 (nI W)) 22 5 (nI h)) 22 6 0 = X
  have kX : ag (fun a _ => a ≠ 22) D X := by rw [← hX]; exact ((ag.refl.sI (by omega)).sI (by omega)).sI (by omega)
  have x6 : gI X 22 6 = 0 := by rw [← hX]; exact gI_eq
  have hPX : cP n B 0 W h 0 X := ⟨hc.keep fun a b q => kX _ _ (by omega), hb, by omega, by rw [← hX, gI_nb (by omega), gI_nb (by omega), gI_eq], by rw [← hX, gI_nb (by omega), gI_eq], Or.inl x6⟩
  clear hX
  refine (show zok (fn_X7_choiceT (nI 0) (nI 0) X) _ from SG_top.1 0 0 X (Nat.le_refl _) hPX).bind fun q4 ⟨a4, o4⟩ => ?_
  rw [x6] at o4
  have fr : ∀ {E F : zD}, ag pCs E F → ag pKc E F ∧ gI F 2 1 = gI E 2 1 ∧ gI F 0 17 = gI E 0 17 := fun g => ⟨g.mono (by unfold pKc pCs; intros; omega), g _ _ (by unfold pCs; omega), g _ _ (by unfold pCs; omega)⟩
  have fr4 : ag pKc D q4.2 ∧ gI q4.2 2 1 = gI D 2 1 ∧ gI q4.2 0 17 = gI D 0 17 := ⟨(kX.mono (by unfold pKc; intros; omega)).trans (a4.mono (by unfold pKc pCl; intros; omega)), by rw [a4 _ _ (by unfold pCl; omega), kX _ _ (by omega)], by rw [a4 _ _ (by unfold pCl; omega), kX _ _ (by omega)]⟩
  have frt : ∀ {F : zD}, ag pCs q4.2 F → ag pKc D F ∧ gI F 2 1 = gI D 2 1 ∧ gI F 0 17 = gI D 0 17 := fun g => ⟨fr4.1.trans (fr g).1, by rw [(fr g).2.1, fr4.2.1], by rw [(fr g).2.2, fr4.2.2]⟩
  rcases o4 with ⟨x4, f, y1, y2⟩ | ⟨x4, e, s, y1, y2, y3, y4, y5, y6, y7⟩
  · rw [x4, if_pos rfl, zok_some]
    refine ⟨fr4.1, fr4.2.1, fr4.2.2, Or.inl ⟨rfl, f, y1, fun E v1 Q hE hQ => (y2 E hE).bind fun F ⟨f1, f2⟩ => ?_⟩⟩
    have rBF : rB n B F := ⟨hE.1.1.1, by rw [f1.1 _ _ (by unfold pRl; omega)]; exact hE.1.1.2.1, fun i hi => by rw [f1.1 _ _ (by unfold pRl; omega)]; exact hE.1.1.2.2 i hi⟩
    refine (r_blanksF rBF f2).bind fun G ⟨g1, g2⟩ => ?_
    rw [if_neg (rdF_ne g1)]
    unfold fn_X12_rule_72
    rw [if_neg (rdF_ne g1)]
    exact hQ G (f1.trans (pRd_rl g2)) g1
  · rw [x4, if_neg (show ¬ (1 : Int32) = 0 by decide)]
    have hse := sk_le (B := B) y2.2.1
    have ss := sk_sk (B := B) y2.2.1
    refine (c_ended y2).bind fun q6 ⟨a6, b6, x6'⟩ => ?_
    rw [x6']
    have ref : ∀ (E : zD) (v1 : Int32) (Q : Int32 × zD → Prop), rR n B 0 0 0 W h 0 E → (∀ F, agL (pRl 0) E F → rdS n B (sk n B e) F → rV 0 s F → zok ((if (gI F 102 2) ≤ (gI F 102 4) then ((fn_X12_rule_72 v1 F)) else ((fn_X12_wrong (1 : Int32) (gI F 102 4) F).bind fun D29 => (fn_X12_rule_72 v1 D29)))) Q) → zok ((fn_X12_orsT E).bind fun D7 => (fn_X12_blanks D7).bind fun D8 => (if (gI D8 102 5) = 0 then ((if (gI D8 102 2) ≤ (gI D8 102 4) then ((fn_X12_rule_72 v1 D8)) else ((fn_X12_wrong (1 : Int32) (gI D8 102 4) D8).bind fun D29 => (fn_X12_rule_72 v1 D29)))) else ((fn_X12_rule_72 v1 D8)))) Q := by
      intro E v1 Q hE hQ
      refine (y7 E hE).bind fun F ⟨f1, f2, _, _, f5⟩ => (r_blanks f2).bind fun G ⟨g1, g2⟩ => ?_
      rw [g1.2.2.2.1, if_pos rfl]
      exact hQ G (f1.trans (pRd_rl g2)) g1 (rV_rd f5 g2)
    by_cases q : sk n B e < n
    · rw [if_pos q, if_pos rfl]
      refine (c_next b6).bind fun q12 ⟨z1, z2, z3⟩ => ?_
      rw [z1, ss]
      refine (show zok (fn_X8_blame (nI 1) (nI (sk n B e)) q12.2) _ from c_blame z2 1 _).bind fun q13 ⟨w1, w2, w3⟩ => ?_
      rw [w1, zcb_0, zok_some]
      have ft := frt ((a6.trans z3).trans w3)
      refine ⟨ft.1, ft.2.1, ft.2.2, Or.inl ⟨rfl, _, w2, fun E v1 Q hE hQ => ref E v1 Q hE fun F f1 f2 f3 => ?_⟩⟩
      rw [f2.1.2.1, f2.2.2.1, if_neg (nI_ge q (by omega))]
      refine (show zok (fn_X12_wrong (nI 1) (nI (sk n B e)) F) _ from r_wrong (k := 1) (pl := sk n B e) f2 (by omega)).bind fun G ⟨g1, g2, _⟩ => ?_
      unfold fn_X12_rule_72
      rw [if_neg (rdF_ne g1)]
      exact hQ G (f1.trans (pRd_rl g2)) g1
    · rw [if_neg q, if_neg (show ¬ (1 : Int32) = 0 by decide), a6 22 6 (by unfold pCs; omega)]
      have y3' : cV 27 s q4.2 := y3
      have ft6 := frt a6
      have ref2 : ∀ (E : zD) (v1 : Int32) (Q : Int32 × zD → Prop), rR n B 0 0 0 W h 0 E → (∀ F, agL (pRl 0) E F → rdS n B (sk n B e) F → rV 0 s F → zok (fn_X12_rule_72 v1 F) Q) → zok ((fn_X12_orsT E).bind fun D7 => (fn_X12_blanks D7).bind fun D8 => (if (gI D8 102 5) = 0 then ((if (gI D8 102 2) ≤ (gI D8 102 4) then ((fn_X12_rule_72 v1 D8)) else ((fn_X12_wrong (1 : Int32) (gI D8 102 4) D8).bind fun D29 => (fn_X12_rule_72 v1 D29)))) else ((fn_X12_rule_72 v1 D8)))) Q := by
        intro E v1 Q hE hQ
        refine ref E v1 Q hE fun F f1 f2 f3 => ?_
        rw [f2.1.2.1, f2.2.2.1, if_pos (nI_le (by omega) (by omega))]
        exact hQ F f1 f2 f3
      cases s with
      | none =>
        rw [y3'.1, if_neg (show ¬ (1 : Int32) = 0 by decide)]
        unfold fn_X8_length
        rw [Option.bind_some, a6 2 1 (by unfold pCs; omega), fr4.2.1, hc.1.2.1]
        refine (show zok (fn_X8_blame (nI 4) (nI n) q6.2) _ from c_blame b6 4 _).bind fun q10 ⟨w1, w2, w3⟩ => ?_
        rw [w1, if_pos rfl, zok_some]
        have ft := frt (a6.trans w3)
        refine ⟨ft.1, by rw [ft.2.1, hc.1.2.1], ft.2.2, Or.inl ⟨rfl, _, w2, fun E v1 Q hE hQ => ref2 E v1 Q hE fun F f1 f2 f3 => ?_⟩⟩
        unfold fn_X12_rule_72
        rw [f2.2.2.2.1, if_pos rfl, f3.1, if_neg (show ¬ (1 : Int32) = 0 by decide), f2.1.2.1]
        exact (show zok (fn_X12_wrong (nI 4) (nI n) F) _ from r_wrong (k := 4) (pl := n) f2 (by omega)).bind fun G ⟨g1, g2, _⟩ => hQ G (f1.trans (pRd_rl g2)) g1
      | some l =>
        rw [y3'.1, if_pos rfl, zok_some]
        refine ⟨ft6.1, ft6.2.1, ft6.2.2, Or.inr ⟨rfl, l, y4 l rfl, y5 l rfl, ⟨by rw [a6 _ _ (by unfold pCs; omega)]; exact y3'.2.2.1, fun i hi => by rw [a6 _ _ (by unfold pCs; omega)]; exact y3'.2.2.2 i hi⟩, b6.2.2.2.2, fun E v1 Q hE hQ => ref2 E v1 Q hE fun F f1 f2 f3 => ?_⟩⟩
        unfold fn_X12_rule_72
        rw [f2.2.2.2.1, if_pos rfl, f3.1, if_pos rfl]
        exact hQ F f1 f2.2.2.2.1 f2.2.2.2.2 f3.2.2
/-- the class takes the covers over -/
theorem c_take27 {l : List Int32} (hl : cL 27 l D) (ho : l.length ≤ 500) : zok (fn_X3_copyFrom 20 27 D) fun E => gI E 20 1 = nI l.length ∧ (∀ i, i < l.length → gI E 21 i = l.getD i 0) ∧ ag (fun a b => ¬ (a = 20 ∧ b = 1) ∧ a ≠ 21) D E := by
  unfold fn_X3_copyFrom
  have hz : zmx 0 (zmn (nI l.length) 500) = nI l.length := by
    rw [show (500 : Int32) = nI 500 from rfl, zmn_n _ _ (by omega) (by omega), show (0 : Int32) = nI 0 from rfl, zmx_n _ _ (by omega) (by omega)]
    congr 1
    omega
  rw [hl.1, hz, zlet_eq, gI_eq, zcp_n ho (by omega), nI_clamp (by omega), zlet_eq, zok_some]
  refine ⟨by rw [sC_na (by omega), gI_eq], fun i hi => ?_, (ag.refl.sI (by omega)).sC (fun b => by omega)⟩
  show gI (sC (sI D 20 1 (nI l.length)) (27 + 1) (20 + 1) 0 0 l.length) (20 + 1) i = _
  rw [sC_eq0 hi, gI_na (by omega)]
  exact hl.2 i hi
def pR95 (a b : Nat) : Prop := ¬ (a = 102 ∧ (b = 3 ∨ b = 26 ∨ b = 35)) ∧ a ≠ 128
/-- the reference takes the covers over -/
theorem r_rule95 {l : List Int32} {Q : Int32 × zD → Prop} (h5 : gI D 102 5 = 0) (h6 : gI D 102 6 = -1) (hl : rL 0 l D) (ho : 1 ≤ l.length ∧ l.length ≤ 500) (v1 : Int32) (hQ : ∀ E, agL pR95 D E → gI E 102 3 = -1 → gI E 102 26 = nI l.length → gI E 102 35 = 0 → srt (gI E 128) l.length → (∀ y, cnt (gI E 128) l.length y = cnt (fun i => l.getD i 0) l.length y) → Q (nI l.length, E)) : zok (fn_X12_rule_95 v1 D) Q := by
  unfold fn_X12_rule_95
  rw [zlet_eq, gI_nb (by omega), h5, if_pos rfl, gI_na (by omega), hl.1, zlet_eq]
  refine z_inv l.length (fun m i (E : zD) => fn_X12_rule_130 v1 m (nI i) E) (fun i E => gI E 102 26 = nI l.length ∧ gI E 102 3 = -1 ∧ agL pR95 D E ∧ ∀ j, j < i → gI E 128 j = l.getD j 0) _ ?_ ?_ 0 zFU _ (Nat.zero_le _) (zfu_gt (by omega)) ⟨gI_eq, by rw [gI_nb (by omega), gI_eq, h6], agL_sI (agL_sI agL.refl (by unfold pR95; omega)) (by unfold pR95; omega), fun j hj => absurd hj (Nat.not_lt_zero _)⟩
  · intro m i E hi ⟨e1, e2, e3, e4⟩ ih
    show zok (fn_X12_rule_130 v1 (m + 1) (nI i) E) _
    rw [fn_X12_rule_130, e1, if_neg (nI_ge hi (by omega)), zck_nI (by omega) (by omega), zck_nI (by omega) (by omega), nI_clamp (by omega), zlet_eq, nI_1, e3.1 (130 + 0) i (by unfold pR95; omega), hl.2 i hi]
    refine ih _ ⟨by rw [gI_na (by omega)]; exact e1, by rw [gI_na (by omega)]; exact e2, agL_sI e3 (by unfold pR95; omega), fun j hj => ?_⟩
    by_cases t : j = i
    · rw [t, gI_eq]
    · rw [gI_nb t]; exact e4 j (by omega)
  · intro m E ⟨e1, e2, e3, e4⟩
    show zok (fn_X12_rule_130 v1 (m + 1) (nI l.length) E) _
    rw [fn_X12_rule_130, e1, if_pos (nI_le (Nat.le_refl _) (by omega))]
    refine r_bubble v1 ho e1 fun F f1 f2 f3 => ?_
    refine hQ _ ((e3.trans (f1.mono fun a b q => q.2)).trans (agL_sI agL.refl (by unfold pR95; omega))) (by rw [gI_nb (by omega), f1.1 _ _ (by unfold pB8; omega), e2]) (by rw [gI_nb (by omega), f1.1 _ _ (by unfold pB8; omega), e1]) gI_eq f2 fun y => ?_
    rw [show cnt (gI (sI F 102 35 0) 128) l.length y = cnt (gI F 128) l.length y from cnt_cong fun k _ => gI_na (by omega), f3 y]
    exact cnt_cong fun k hk => e4 k hk
end M9zh
