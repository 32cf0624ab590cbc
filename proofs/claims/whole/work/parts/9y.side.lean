/-! THE MATHEMATICS: a plain rule of one number or two, both -/
def pCl (k a b : Nat) : Prop := ¬ (a = 2 ∧ 2 ≤ b ∧ b ≤ 4) ∧ ¬ (a = 22 ∧ b = 6) ∧ ¬ (a = 24 ∧ b = 1) ∧ a ≠ 25 ∧ a ≠ 26 ∧ ¬ (27 + 2 * k ≤ a ∧ a ≤ 56)
def pPl (a b : Nat) : Prop := ¬ (a = 102 ∧ ((4 ≤ b ∧ b ≤ 6) ∨ b = 32 ∨ b = 33)) ∧ a ≠ 161
def rP (n : Nat) (B : Nat → Int32) (p W h : Nat) (z : Option (List Int32)) (E : zD) : Prop := rdS n B p E ∧ gI E 102 14 = nI W ∧ gI E 102 15 = nI h ∧ rM z E
def plq (n : Nat) (B : Nat → Int32) (p W h k : Nat) (R : zD → Option zD) (D : zD) (q : Int32 × zD) : Prop :=
  ag (pCl k) D q.2 ∧ ((q.1 = 0 ∧ ∃ f, cF f q.2 ∧ ∀ E, rP n B p W h (zst (gI D 22 6)) E → zok (R E) fun F => agL pPl E F ∧ rdF f F) ∨
    (q.1 = 1 ∧ ∃ e s, p ≤ e ∧ cS n B e q.2 ∧ cV (27 + 2 * k) s q.2 ∧ okc (W * h) s ∧ (∀ l, s = some l → 1 ≤ l.length) ∧ (gI D 22 6 = 1 → s = none) ∧ ∀ E, rP n B p W h (zst (gI D 22 6)) E → zok (R E) fun F => agL pPl E F ∧ rdS n B e F ∧ rM s F))
def cP (n : Nat) (B : Nat → Int32) (p W h k : Nat) (D : zD) : Prop := cS n B p D ∧ (2 ≤ W ∧ W ≤ 6 ∧ 2 ≤ h ∧ h ≤ 5) ∧ k ≤ 14 ∧ gI D 22 4 = nI W ∧ gI D 22 5 = nI h ∧ (gI D 22 6 = 0 ∨ gI D 22 6 = 1)
section M9y
variable {D : zD} {n p e W h k : Nat} {B : Nat → Int32} {R : zD → Option zD}
theorem nm_ge {lo H v e : Nat} (hp : p ≤ n) (z : nm n B lo H p = .inr (v, e)) : p ≤ e := by
  have h1 := sk_le (B := B) hp
  have h2 := dg_le (B := B) h1.2
  unfold nm at z
  split at z
  · cases z
  · split at z
    · cases z
      omega
    · cases z
theorem pCs_l {E : zD} (g : ag pCs D E) : ag (pCl k) D E := g.mono (by unfold pCl pCs; intros; omega)
theorem pRd_l {E : zD} (g : agL pRd D E) : agL pPl D E := g.mono (by unfold pPl pRd; intros; omega)
theorem pMk_l {E : zD} (g : agL pMk D E) : agL pPl D E := g.mono (by unfold pPl pMk; intros; omega)
theorem rM.keep {z : Option (List Int32)} {E : zD} (m : rM z D) (g : agL pRd D E) : rM z E := by
  have e1 : ∀ a b, (a = 102 ∧ (b = 32 ∨ b = 33)) ∨ a = 161 → gI E a b = gI D a b := fun a b q => g.1 _ _ (by unfold pRd; omega)
  cases z with
  | none =>
    obtain ⟨h1, c, h2, h3⟩ := m
    exact ⟨by rw [e1 _ _ (by omega)]; exact h1, c, h2, by rw [e1 _ _ (by omega)]; exact h3⟩
  | some l =>
    obtain ⟨h1, h2, h3, h4⟩ := m
    exact ⟨by rw [e1 _ _ (by omega)]; exact h1, h2, by rw [e1 _ _ (by omega)]; exact h3, fun i hi => by rw [e1 _ _ (by omega)]; exact h4 i hi⟩
theorem rdS.mk {E : zD} (d : rdS n B p D) (g : agL pMk D E) : rdS n B p E := d.keep fun a b q => g.1 _ _ (by unfold pMk; omega)
theorem rdF.mk {f : Nat × Nat} {E : zD} (d : rdF f D) (g : agL pMk D E) : rdF f E := d.keep fun b q => g.1 _ _ (by unfold pMk; omega)
theorem r_mk {z : Option (List Int32)} {G : zD} (g : agL pRd D G) (d : rdS n B e G) (m : rM z D) (v : Int32) : zok ((fn_X12_makes v G).bind fun D => some D) fun F => agL pPl D F ∧ rdS n B e F ∧ rM (stp z v) F := by
  rw [bsm]
  exact (r_makes (m.keep g) v).mono fun F ⟨f1, f2⟩ => ⟨(pRd_l g).trans (pMk_l f2), d.mk f2, f1⟩
theorem r_mkF {z : Option (List Int32)} {G : zD} {f : Nat × Nat} (g : agL pRd D G) (d : rdF f G) (m : rM z D) (v : Int32) : zok ((fn_X12_makes v G).bind fun D => some D) fun F => agL pPl D F ∧ rdF f F := by
  rw [bsm]
  exact (r_makes (m.keep g) v).mono fun F ⟨f1, f2⟩ => ⟨(pRd_l g).trans (pMk_l f2), d.mk f2⟩
theorem zst_ok {c : Nat} (fl : Int32) {v : Int32} (hv : un v < 2 ^ c) : okc c (stp (zst fl) v) := okc_stp (by
  unfold zst
  split
  · exact okc_nil
  · intro l hl; cases hl) hv
theorem plq_one {E : zD} (hP : cP n B p W h k D) (he : p ≤ e) (hE : cS n B e E) (g : ag pCs D E) {v : Int32} (hv : un v < 2 ^ (W * h)) (hR : ∀ E, rP n B p W h (zst (gI D 22 6)) E → zok (R E) fun F => agL pPl E F ∧ rdS n B e F ∧ rM (stp (zst (gI D 22 6)) v) F) : zok ((fn_X3_beOne (27 + 2 * k) v E).bind fun E => some ((1 : Int32), E)) (plq n B p W h k R D) := by
  have e22 : gI E 22 6 = gI D 22 6 := g _ _ (by unfold pCs; omega)
  refine (c_beOne (a := 27 + 2 * k) (D := E) (by rw [e22]; exact hP.2.2.2.2.2) (by omega) v).mono fun q ⟨q1, q2, q3⟩ => ?_
  rw [e22] at q2
  have k14 := hP.2.2.1
  exact ⟨(pCs_l g).trans (q3.mono (by unfold pCl; intros; omega)), Or.inr ⟨q1, e, _, he, hE.keep fun a b r => q3 _ _ (by omega), q2, zst_ok _ hv, fun l hl => stp_pos hl, fun h1 => by rw [h1]; rfl, hR⟩⟩
theorem plq_bad {q : Int32 × zD} {f : Nat × Nat} (g : ag pCs D q.2) (q1 : q.1 = 0) (q2 : cF f q.2) (hR : ∀ E, rP n B p W h (zst (gI D 22 6)) E → zok (R E) fun F => agL pPl E F ∧ rdF f F) : plq n B p W h k R D q := ⟨pCs_l g, Or.inl ⟨q1, f, q2, hR⟩⟩
/-! sides -/
def sdx (j W L : Nat) : Nat := if j = 1 then W - L else 0
def sdy (j h L : Nat) : Nat := if j = 3 then h - L else 0
def sdw (j W L : Nat) : Nat := if 2 ≤ j then W else L
def sdh (j h L : Nat) : Nat := if 2 ≤ j then L else h
theorem r_sideT {j L : Nat} {G : zD} (hj : j < 4) (h14 : gI G 102 14 = nI W) (h15 : gI G 102 15 = nI h) (hW : W ≤ 6) (hh : h ≤ 5) (hL : L ≤ 6) (h1 : j = 1 → L ≤ W) (h3 : j = 3 → L ≤ h) :
    (if nI j = (1 : Int32) then ((fn_X12_plain_65 (nI j) (nI L) ((gI G 102 14) - nI L) G)) else ((fn_X12_plain_65 (nI j) (nI L) (0 : Int32) G))) = (fn_X12_makes (rbl W (sdx j W L) (sdy j h L) (sdw j W L) (sdh j h L)) G).bind fun D => some D := by
  unfold fn_X12_plain_65 fn_X12_plain_80 fn_X12_plain_93 fn_X12_plain_106 sdx sdy sdw sdh
  rw [h14, h15]
  rcases (show j = 0 ∨ j = 1 ∨ j = 2 ∨ j = 3 by omega) with rfl | rfl | rfl | rfl
  · have z := r_blkX (D := G) (x := 0) (y := 0) (w := L) (h := h) h14 (by omega) (by omega) (by omega) (by omega)
    show (fn_X12_block (nI 0) (nI 0) (nI L) (nI h) G).bind _ = _
    rw [z]; rfl
  · have z := r_blkX (D := G) (x := W - L) (y := 0) (w := L) (h := h) h14 (by omega) (by omega) (by omega) (by omega)
    show (fn_X12_block (nI W - nI L) (nI 0) (nI L) (nI h) G).bind _ = _
    rw [nSn _ _ (h1 rfl), z]; rfl
  · have z := r_blkX (D := G) (x := 0) (y := 0) (w := W) (h := L) h14 (by omega) (by omega) (by omega) (by omega)
    show (fn_X12_block (nI 0) (nI 0) (nI W) (nI L) G).bind _ = _
    rw [z]; rfl
  · have z := r_blkX (D := G) (x := 0) (y := h - L) (w := W) (h := L) h14 (by omega) (by omega) (by omega) (by omega)
    show (fn_X12_block (nI 0) (nI h - nI L) (nI W) (nI L) G).bind _ = _
    rw [nSn _ _ (h3 rfl), z]; rfl
theorem c_sideT {j L a : Nat} {G : zD} (hj : j < 4) (h4 : gI G 22 4 = nI W) (h5 : gI G 22 5 = nI h) (hW : W ≤ 6) (hh : h ≤ 5) (hL : L ≤ 6) (h1 : j = 1 → L ≤ W) (h3 : j = 3 → L ≤ h) :
    (if (2 : Int32) ≤ nI j then ((if nI j = (2 : Int32) then ((fn_X7_side_103 a (nI L) (0 : Int32) (0 : Int32) G)) else ((fn_X7_side_103 a (nI L) (0 : Int32) ((gI G 22 5) - nI L) G)))) else ((if nI j = 0 then ((fn_X7_side_70 a (nI L) (0 : Int32) G)) else ((fn_X7_side_70 a (nI L) ((gI G 22 4) - nI L) G))))) = (fn_X3_beOne a (blk W (sdx j W L) (sdy j h L) (sdw j W L) (sdh j h L)) G).bind fun D => some ((1 : Int32), D) := by
  unfold fn_X7_side_103 fn_X7_side_70 sdx sdy sdw sdh
  rw [h4, h5]
  rcases (show j = 0 ∨ j = 1 ∨ j = 2 ∨ j = 3 by omega) with rfl | rfl | rfl | rfl
  · have z := c_blkX (D := G) (x := 0) (y := 0) (w := L) (h := h) h4 hW (by omega) (by omega) (by omega) (by omega)
    show (fn_X7_block (nI 0) (nI 0) (nI L) (nI h) G).bind _ = _
    rw [z]; rfl
  · have z := c_blkX (D := G) (x := W - L) (y := 0) (w := L) (h := h) h4 hW (by omega) (by omega) (by omega) (by omega)
    show (fn_X7_block (nI W - nI L) (nI 0) (nI L) (nI h) G).bind _ = _
    rw [nSn _ _ (h1 rfl), z]; rfl
  · have z := c_blkX (D := G) (x := 0) (y := 0) (w := W) (h := L) h4 hW (by omega) (by omega) (by omega) (by omega)
    show (fn_X7_block (nI 0) (nI 0) (nI W) (nI L) G).bind _ = _
    rw [z]; rfl
  · have z := c_blkX (D := G) (x := 0) (y := h - L) (w := W) (h := L) h4 hW (by omega) (by omega) (by omega) (by omega)
    show (fn_X7_block (nI 0) (nI h - nI L) (nI W) (nI L) G).bind _ = _
    rw [nSn _ _ (h3 rfl), z]; rfl
def rSide (D40 : zD) : Option zD := (fn_X12_number (0 : Int32) (3 : Int32) D40).bind fun q41 => (if (2 : Int32) ≤ q41.1 then ((fn_X12_plain_44 q41.1 (1 : Int32) (gI q41.2 102 15) q41.2)) else ((fn_X12_plain_44 q41.1 (1 : Int32) (gI q41.2 102 14) q41.2)))
theorem r_side44 {j : Nat} {G : zD} (hj : j < 4) (h14 : gI G 102 14 = nI W) (h15 : gI G 102 15 = nI h) : (if (2 : Int32) ≤ nI j then ((fn_X12_plain_44 (nI j) (1 : Int32) (gI G 102 15) G)) else ((fn_X12_plain_44 (nI j) (1 : Int32) (gI G 102 14) G))) = fn_X12_plain_44 (nI j) (nI 1) (nI ((if 2 ≤ j then h else W) + 1) - 1) G := by
  have e2 : (2 : Int32) ≤ nI j ↔ 2 ≤ j := nLe 2 j (by omega) (by omega)
  rw [h14, h15]
  by_cases q : 2 ≤ j
  · rw [if_pos (e2.mpr q), if_pos q, ← hM]; rfl
  · rw [if_neg (fun r => q (e2.mp r)), if_neg q, ← hM]; rfl
theorem pl_side (hP : cP n B p W h k D) : zok (fn_X7_side (27 + 2 * k) D) (plq n B p W h k rSide D) := by
  obtain ⟨hc, hb, hk, h4, h5, hf⟩ := hP
  have hP : cP n B p W h k D := ⟨hc, hb, hk, h4, h5, hf⟩
  unfold fn_X7_side
  refine (show zok (fn_X8_number 0 (nI 4 - 1) D) _ from c_numberOf hc (lo := 0) (H := 4) (by omega) (by omega)).bind fun q ⟨a1, o1⟩ => ?_
  -- the reference's first number
  have ref1 : ∀ (Q : zD → zD → Prop), (∀ E G j, j < 4 → rP n B p W h (zst (gI D 22 6)) E → agL pRd E G → (((∃ f, nm n B 0 4 p = .inl f ∧ rdF f G) ∧ j = 0) ∨ ∃ e, nm n B 0 4 p = .inr (j, e) ∧ rdS n B e G) → zok (fn_X12_plain_44 (nI j) (nI 1) (nI ((if 2 ≤ j then h else W) + 1) - 1) G) (Q E)) → ∀ E, rP n B p W h (zst (gI D 22 6)) E → zok (rSide E) (Q E) := by
    intro Q k2 E hE
    unfold rSide
    refine (show zok (fn_X12_number 0 (nI 4 - 1) E) _ from r_number2 hE.1 (lo := 0) (H := 4) (by omega) (by omega)).bind fun r ⟨b1, o2⟩ => ?_
    have h14 : gI r.2 102 14 = nI W := by rw [b1.1 _ _ (by unfold pRd; omega), hE.2.1]
    have h15 : gI r.2 102 15 = nI h := by rw [b1.1 _ _ (by unfold pRd; omega), hE.2.2.1]
    rcases o2 with ⟨f, y1, y2, y3⟩ | ⟨j, e, y1, y2, y3, y4, y5⟩
    · have z := r_side44 (j := 0) (by omega) h14 h15
      rw [y2]
      show zok (if (2 : Int32) ≤ nI 0 then ((fn_X12_plain_44 (nI 0) (1 : Int32) (gI r.2 102 15) r.2)) else ((fn_X12_plain_44 (nI 0) (1 : Int32) (gI r.2 102 14) r.2))) _
      rw [z]
      exact k2 E r.2 0 (by omega) hE b1 (Or.inl ⟨⟨f, y1, y3⟩, rfl⟩)
    · rw [y4, r_side44 y3 h14 h15]
      exact k2 E r.2 j y3 hE b1 (Or.inr ⟨e, y1, y5⟩)
  rcases o1 with ⟨f, z1, z2, z3⟩ | ⟨j, e, z1, z2, z3, z4⟩
  · rw [z2, if_pos rfl, zok_some]
    refine plq_bad a1 rfl z3 (ref1 (fun E F => agL pPl E F ∧ rdF f F) fun E G j hj hE b1 o2 => ?_)
    rcases o2 with ⟨⟨f', y1, y2⟩, rfl⟩ | ⟨e, y1, y2⟩
    · rw [z1] at y1
      cases y1
      unfold fn_X12_plain_44
      have h14 : gI G 102 14 = nI W := by rw [b1.1 _ _ (by unfold pRd; omega), hE.2.1]
      have h15 : gI G 102 15 = nI h := by rw [b1.1 _ _ (by unfold pRd; omega), hE.2.2.1]
      rw [r_numberF y2, Option.bind_some]
      have z := r_sideT (j := 0) (L := 0) (W := W) (h := h) (by omega) h14 h15 (by omega) (by omega) (by omega) (by omega) (by omega)
      refine (show zok (if nI 0 = (1 : Int32) then ((fn_X12_plain_65 (nI 0) (nI 0) ((gI G 102 14) - nI 0) G)) else ((fn_X12_plain_65 (nI 0) (nI 0) (0 : Int32) G))) _ from ?_)
      rw [z]
      exact r_mkF b1 y2 hE.2.2.2 _
    · rw [z1] at y1; cases y1
  · rw [z3, if_neg (fun t => (nM1 _ (by omega)).mp t)]
    have c4 : gI q.2 22 4 = nI W := by rw [a1 _ _ (by unfold pCs; omega), h4]
    have c5 : gI q.2 22 5 = nI h := by rw [a1 _ _ (by unfold pCs; omega), h5]
    have e2 : (2 : Int32) ≤ nI j ↔ 2 ≤ j := nLe 2 j (by omega) (by omega)
    have hst : (if (2 : Int32) ≤ nI j then ((fn_X7_side_38 (27 + 2 * k) (nI j) (1 : Int32) (gI q.2 22 5) q.2)) else ((fn_X7_side_38 (27 + 2 * k) (nI j) (1 : Int32) (gI q.2 22 4) q.2))) = fn_X7_side_38 (27 + 2 * k) (nI j) (nI 1) (nI ((if 2 ≤ j then h else W) + 1) - 1) q.2 := by
      rw [c4, c5]
      by_cases r : 2 ≤ j
      · rw [if_pos (e2.mpr r), if_pos r, ← hM]; rfl
      · rw [if_neg (fun t => r (e2.mp t)), if_neg r, ← hM]; rfl
    rw [hst]
    obtain ⟨M, hMe⟩ : ∃ M, M = if 2 ≤ j then h else W := ⟨_, rfl⟩
    have hM1 : (2 ≤ j → M = h) ∧ (¬ 2 ≤ j → M = W) := ⟨fun r => by rw [hMe, if_pos r], fun r => by rw [hMe, if_neg r]⟩
    have hM6 : M ≤ 6 := by by_cases r : 2 ≤ j; (have := hM1.1 r; omega); (have := hM1.2 r; omega)
    rw [← hMe]
    unfold fn_X7_side_38
    refine (c_numberOf z4 (lo := 1) (H := M + 1) (by omega) (by omega)).bind fun q2 ⟨a2, o2⟩ => ?_
    have a12 := a1.trans a2
    have pe := nm_ge hc.2.1 z1
    have ref2 : ∀ (Q : zD → zD → Prop), (∀ E G L, L ≤ 6 → (j = 1 → L ≤ W) → (j = 3 → L ≤ h) → rP n B p W h (zst (gI D 22 6)) E → agL pRd E G → (((∃ f, nm n B 1 (M + 1) e = .inl f ∧ rdF f G) ∧ L = 0) ∨ ∃ e', nm n B 1 (M + 1) e = .inr (L, e') ∧ rdS n B e' G) → zok ((fn_X12_makes (rbl W (sdx j W L) (sdy j h L) (sdw j W L) (sdh j h L)) G).bind fun D => some D) (Q E)) → ∀ E, rP n B p W h (zst (gI D 22 6)) E → zok (rSide E) (Q E) := by
      intro Q k2
      refine ref1 Q fun E G j' hj' hE b1 o3 => ?_
      rcases o3 with ⟨⟨f', y1, y2⟩, _⟩ | ⟨e', y1, y2⟩
      · rw [z1] at y1; cases y1
      · rw [z1] at y1
        cases y1
        rw [← hMe]
        unfold fn_X12_plain_44
        refine (r_number2 y2 (lo := 1) (H := M + 1) (by omega) (by omega)).bind fun r ⟨b2, o4⟩ => ?_
        have b12 := b1.trans b2
        have h14 : gI r.2 102 14 = nI W := by rw [b12.1 _ _ (by unfold pRd; omega), hE.2.1]
        have h15 : gI r.2 102 15 = nI h := by rw [b12.1 _ _ (by unfold pRd; omega), hE.2.2.1]
        rcases o4 with ⟨f, w1, w2, w3⟩ | ⟨L, e', w1, w2, w3, w4, w5⟩
        · rw [w2]
          have z := r_sideT (j := j) (L := 0) (W := W) (h := h) z2 h14 h15 (by omega) (by omega) (by omega) (by omega) (by omega)
          refine (show zok (if nI j = (1 : Int32) then ((fn_X12_plain_65 (nI j) (nI 0) ((gI r.2 102 14) - nI 0) r.2)) else ((fn_X12_plain_65 (nI j) (nI 0) (0 : Int32) r.2))) _ from ?_)
          rw [z]
          exact k2 E r.2 0 (by omega) (by omega) (by omega) hE b12 (Or.inl ⟨⟨f, w1, w3⟩, rfl⟩)
        · have l1 : j = 1 → L ≤ W := fun r => by have := hM1.2 (by omega); omega
          have l3 : j = 3 → L ≤ h := fun r => by have := hM1.1 (by omega); omega
          rw [w4, r_sideT (j := j) (L := L) (W := W) (h := h) z2 h14 h15 (by omega) (by omega) (by omega) l1 l3]
          exact k2 E r.2 L (by omega) l1 l3 hE b12 (Or.inr ⟨e', w1, w5⟩)
    rcases o2 with ⟨f, y1, y2, y3⟩ | ⟨L, e', y1, y2, y3, y4⟩
    · rw [y2, if_pos rfl, zok_some]
      refine plq_bad a12 rfl y3 (ref2 (fun E F => agL pPl E F ∧ rdF f F) fun E G L _ _ _ hE b1 o3 => ?_)
      rcases o3 with ⟨⟨f', w1, w2⟩, _⟩ | ⟨e', w1, w2⟩
      · rw [y1] at w1
        cases w1
        exact r_mkF b1 w2 hE.2.2.2 _
      · rw [y1] at w1; cases w1
    · have lL := (nm_lo y1).1
      have l1 : j = 1 → L ≤ W := fun r => by have := hM1.2 (by omega); omega
      have l3 : j = 3 → L ≤ h := fun r => by have := hM1.1 (by omega); omega
      have pe2 := nm_ge z4.2.1 y1
      rw [y3, if_neg (fun t => (nM1 _ (by omega)).mp t), c_sideT (j := j) (L := L) (W := W) (h := h) z2 (by rw [a12 _ _ (by unfold pCs; omega), h4]) (by rw [a12 _ _ (by unfold pCs; omega), h5]) (by omega) (by omega) (by omega) l1 l3]
      have x1 : sdx j W L + sdw j W L ≤ W := by
        unfold sdx sdw
        by_cases r : 2 ≤ j
        · rw [if_pos r, if_neg (by omega)]; omega
        · have := hM1.2 r
          rw [if_neg r]
          split <;> omega
      have x2 : sdy j h L + sdh j h L ≤ h := by
        unfold sdy sdh
        by_cases r : 2 ≤ j
        · have := hM1.1 r
          rw [if_pos r]
          split <;> omega
        · rw [if_neg r, if_neg (by omega)]; omega
      refine plq_one hP (by omega) y4 a12 (blk_un (by omega) (by omega) x1 x2) (ref2 (fun E F => agL pPl E F ∧ rdS n B e' F ∧ rM (stp (zst (gI D 22 6)) (blk W (sdx j W L) (sdy j h L) (sdw j W L) (sdh j h L))) F) fun E G L' _ _ _ hE b1 o3 => ?_)
      rcases o3 with ⟨⟨f', w1, w2⟩, _⟩ | ⟨e'', w1, w2⟩
      · rw [y1] at w1; cases w1
      · rw [y1] at w1
        cases w1
        rw [rbl_eq (by omega) (by omega) x1 x2]
        exact r_mk b1 w2 hE.2.2.2 _
end M9y
