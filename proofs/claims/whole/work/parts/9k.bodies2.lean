/-! THE MATHEMATICS: the clauses' bodies family, board and word, both -/
section M9k
variable {D : zD} {n p W h ns nw : Nat} {B : Nat → Int32}
theorem nm_lo {lo H v e : Nat} (k : nm n B lo H p = .inr (v, e)) : lo ≤ v ∧ v < H := by
  unfold nm at k
  split at k
  · cases k
  · split at k
    · cases k; assumption
    · cases k
def rFam (E : zD) : Option zD := (fn_X12_number (0 : Int32) (3 : Int32) E).bind fun q14 => (fn_X12_number (0 : Int32) ((gI q14.2 102 12) - (1 : Int32)) q14.2).bind fun q15 => (if (gI q15.2 102 5) = 0 then (zck q15.1 12 <| some (sI q15.2 106 q15.1.toNatClampNeg q14.1)) else some q15.2)
def rBrd (E : zD) : Option zD := (fn_X12_number (2 : Int32) (6 : Int32) E).bind fun q25 => (fn_X12_number (2 : Int32) (5 : Int32) (sI q25.2 102 10 q25.1)).bind fun q27 => some (sI q27.2 102 11 q27.1)
theorem c_setFamily (h2 : gI D 12 2 = nI ns) {s : Nat} (hs : s < ns) (hn : ns ≤ 12) (x : Int32) : fn_X0_setFamily 12 (nI s) x D = some (sI D 14 s x) := by
  unfold fn_X0_setFamily fn_X0_has
  rw [h2, if_neg (nI_pos (by omega)), if_neg (nI_ge (by omega) (by omega)), if_neg (show ¬ (12 : Int32) ≤ nI s from nI_ge (b := 12) (by omega) (by omega)), Option.bind_some, if_neg (by decide), zck_nI (by omega) (by omega), nI_clamp (by omega), zlet_eq]
theorem bod_fam (hc : cS n B p D) (d : dW W h ns nw D) : bod n B p W h ns nw (fn_X1_kin D) rFam D := by
  have d1 := d.1
  unfold bod fn_X1_kin
  refine (show zok (fn_X8_number 0 (nI 4 - 1) D) _ from c_numberOf hc (lo := 0) (H := 4) (by omega) (by omega)).bind fun q ⟨a1, o1⟩ => ?_
  rcases o1 with ⟨f, z1, z2, z3⟩ | ⟨f, e, z1, z2, z3, z4⟩
  · rw [z2, if_pos rfl, zok_some]
    refine ⟨pCs_D a1, Or.inl ⟨rfl, f, z3, fun E hE hR => ?_⟩⟩
    unfold rFam
    refine (show zok (fn_X12_number 0 (nI 4 - 1) E) _ from r_numberOf hE (lo := 0) (H := 4) (by omega) (by omega)).bind fun q2 ⟨b1, o2⟩ => ?_
    rcases o2 with ⟨f', y1, y2⟩ | ⟨_, _, y1, _⟩
    · rw [z1] at y1
      cases y1
      rw [r_numberF y2, Option.bind_some, if_neg (rdF_ne y2), zok_some]
      exact ⟨pRd_D b1, y2⟩
    · rw [z1] at y1; cases y1
  · have e2 : gI q.2 12 2 = nI ns := by rw [a1 _ _ (by unfold pCs; omega), d.2.1.2.2.1]
    rw [z3, if_neg (fun t => (nM1 _ (by omega)).mp t), e2]
    refine (c_numberOf z4 (lo := 0) (H := ns) (by omega) (by omega)).bind fun q2 ⟨a2, o2⟩ => ?_
    have a12 := a1.trans a2
    rcases o2 with ⟨f2, y1, y2, y3⟩ | ⟨s, e2', y1, y2, y3, y4⟩
    · rw [y2, if_pos rfl, zok_some]
      refine ⟨pCs_D a12, Or.inl ⟨rfl, f2, y3, fun E hE hR => ?_⟩⟩
      unfold rFam
      refine (show zok (fn_X12_number 0 (nI 4 - 1) E) _ from r_numberOf hE (lo := 0) (H := 4) (by omega) (by omega)).bind fun r ⟨b1, o2⟩ => ?_
      rcases o2 with ⟨f', x1, x2⟩ | ⟨v', e', x1, x2, x3, x4⟩
      · rw [z1] at x1; cases x1
      · rw [z1] at x1
        cases x1
        rw [b1.1 102 12 (by unfold pRd; omega), hR.1.2.2.1]
        refine (r_numberOf x4 (lo := 0) (H := ns) (by omega) (by omega)).bind fun r2 ⟨b2, o3⟩ => ?_
        rcases o3 with ⟨f', w1, w2⟩ | ⟨_, _, w1, _⟩
        · rw [y1] at w1
          cases w1
          rw [if_neg (rdF_ne w2), zok_some]
          exact ⟨pRd_D (b1.trans b2), w2⟩
        · rw [y1] at w1; cases w1
    · have e2'' : gI q2.2 12 2 = nI ns := by rw [a12 _ _ (by unfold pCs; omega), d.2.1.2.2.1]
      rw [y3, if_neg (fun t => (nM1 _ (by omega)).mp t), c_setFamily e2'' y2 (by omega), Option.bind_some, zok_some]
      refine ⟨(pCs_D a12).sI (by unfold pDc; omega), Or.inr ⟨rfl, e2', W, h, ns, nw, y4.keep fun a b q => by rw [gI_na (by omega)], (d.cs a12).fam z2, fun E hE hR => ?_⟩⟩
      unfold rFam
      refine (show zok (fn_X12_number 0 (nI 4 - 1) E) _ from r_numberOf hE (lo := 0) (H := 4) (by omega) (by omega)).bind fun r ⟨b1, o2⟩ => ?_
      rcases o2 with ⟨f', x1, x2⟩ | ⟨v', e', x1, x2, x3, x4⟩
      · rw [z1] at x1; cases x1
      · rw [z1] at x1
        cases x1
        rw [b1.1 102 12 (by unfold pRd; omega), hR.1.2.2.1]
        refine (r_numberOf x4 (lo := 0) (H := ns) (by omega) (by omega)).bind fun r2 ⟨b2, o3⟩ => ?_
        rcases o3 with ⟨f', w1, w2⟩ | ⟨s', e'', w1, w2, w3, w4⟩
        · rw [y1] at w1; cases w1
        · rw [y1] at w1
          cases w1
          rw [w4.2.2.2.1, if_pos rfl, w3, zck_nI (by omega) (by omega), nI_clamp (by omega), zok_some, x3]
          exact ⟨(pRd_D (b1.trans b2)).trans (agL_sI agL.refl (by unfold pDr; omega)), w4.keep fun a b q => by rw [gI_na (by omega)], (hR.cs (by omega) a12 (b1.trans b2)).fam (by omega)⟩
theorem bod_board (hc : cS n B p D) (d : dW W h 0 0 D) (v2 : Int32) : bod n B p W h 0 0 (fn_X1_size 0 v2 D) rBrd D := by
  have d1 := d.1
  unfold bod fn_X1_size
  rw [if_pos (show (0 : Int32) ≤ 0 by decide)]
  refine (show zok (fn_X8_number (nI 2) (nI 7 - 1) D) _ from c_numberOf hc (lo := 2) (H := 7) (by omega) (by omega)).bind fun q ⟨a1, o1⟩ => ?_
  have kF : ∀ {f : Nat × Nat} {E G : zD}, agL pDr E G → rdF f G → ∀ x : Int32, zok ((fn_X12_number (2 : Int32) (5 : Int32) (sI G 102 10 x)).bind fun q27 => some (sI q27.2 102 11 q27.1)) fun F => agL pDr E F ∧ rdF f F := fun {f} {E} {G} g k x => by
    have k2 : rdF f (sI G 102 10 x) := k.keep fun b q => gI_nb (by omega)
    rw [r_numberF k2, Option.bind_some, zok_some]
    exact ⟨agL_sI (agL_sI g (by unfold pDr; omega)) (by unfold pDr; omega), k2.keep fun b q => gI_nb (by omega)⟩
  rcases o1 with ⟨f, z1, z2, z3⟩ | ⟨a, e, z1, z2, z3, z4⟩
  · rw [z2, if_pos rfl, zok_some]
    refine ⟨pCs_D a1, Or.inl ⟨rfl, f, z3, fun E hE hR => ?_⟩⟩
    unfold rBrd
    refine (show zok (fn_X12_number (nI 2) (nI 7 - 1) E) _ from r_numberOf hE (lo := 2) (H := 7) (by omega) (by omega)).bind fun q2 ⟨b1, o2⟩ => ?_
    rcases o2 with ⟨f', y1, y2⟩ | ⟨_, _, y1, _⟩
    · rw [z1] at y1
      cases y1
      exact kF (pRd_D b1) y2 _
    · rw [z1] at y1; cases y1
  · have la := (nm_lo z1).1
    rw [z3, if_neg (fun t => (nM1 _ (by omega)).mp t)]
    refine (show zok (fn_X8_number (nI 2) (nI 6 - 1) q.2) _ from c_numberOf z4 (lo := 2) (H := 6) (by omega) (by omega)).bind fun q2 ⟨a2, o2⟩ => ?_
    have a12 := a1.trans a2
    rcases o2 with ⟨f2, y1, y2, y3⟩ | ⟨b, e2', y1, y2, y3, y4⟩
    · rw [y2, if_pos rfl, zok_some]
      refine ⟨pCs_D a12, Or.inl ⟨rfl, f2, y3, fun E hE hR => ?_⟩⟩
      unfold rBrd
      refine (show zok (fn_X12_number (nI 2) (nI 7 - 1) E) _ from r_numberOf hE (lo := 2) (H := 7) (by omega) (by omega)).bind fun r ⟨b1, o2⟩ => ?_
      rcases o2 with ⟨f', x1, x2⟩ | ⟨v', e', x1, x2, x3, x4⟩
      · rw [z1] at x1; cases x1
      · rw [z1] at x1
        cases x1
        have x5 : rdS n B e (sI r.2 102 10 r.1) := x4.keep fun a b q => by
          rcases q with ⟨rfl, q⟩ | rfl
          · rw [gI_nb (by omega)]
          · rw [gI_na (by omega)]
        refine (show zok (fn_X12_number (nI 2) (nI 6 - 1) _) _ from r_numberOf x5 (lo := 2) (H := 6) (by omega) (by omega)).bind fun r2 ⟨b2, o3⟩ => ?_
        rcases o3 with ⟨f', w1, w2⟩ | ⟨_, _, w1, _⟩
        · rw [y1] at w1
          cases w1
          rw [zok_some]
          exact ⟨agL_sI ((agL_sI (pRd_D b1) (by unfold pDr; omega)).trans (pRd_D b2)) (by unfold pDr; omega), w2.keep fun b q => gI_nb (by omega)⟩
        · rw [y1] at w1; cases w1
    · have lb := (nm_lo y1).1
      rw [y3, if_neg (fun t => (nM1 _ (by omega)).mp t), zlet_eq, zlet_eq, zok_some]
      refine ⟨((pCs_D a12).sI (by unfold pDc; omega)).sI (by unfold pDc; omega), Or.inr ⟨rfl, e2', a, b, 0, 0, y4.keep fun a b q => by rw [gI_na (by omega), gI_na (by omega)], (d.cs a12).board (by omega) (by omega), fun E hE hR => ?_⟩⟩
      unfold rBrd
      refine (show zok (fn_X12_number (nI 2) (nI 7 - 1) E) _ from r_numberOf hE (lo := 2) (H := 7) (by omega) (by omega)).bind fun r ⟨b1, o2⟩ => ?_
      rcases o2 with ⟨f', x1, x2⟩ | ⟨v', e', x1, x2, x3, x4⟩
      · rw [z1] at x1; cases x1
      · rw [z1] at x1
        cases x1
        have x5 : rdS n B e (sI r.2 102 10 r.1) := x4.keep fun a b q => by
          rcases q with ⟨rfl, q⟩ | rfl
          · rw [gI_nb (by omega)]
          · rw [gI_na (by omega)]
        refine (show zok (fn_X12_number (nI 2) (nI 6 - 1) _) _ from r_numberOf x5 (lo := 2) (H := 6) (by omega) (by omega)).bind fun r2 ⟨b2, o3⟩ => ?_
        rcases o3 with ⟨f', w1, w2⟩ | ⟨s', e'', w1, w2, w3, w4⟩
        · rw [y1] at w1; cases w1
        · rw [y1] at w1
          cases w1
          rw [zok_some]
          have g : agL pDr E r2.2 := (agL_sI (pRd_D b1) (by unfold pDr; omega)).trans (pRd_D b2)
          refine ⟨agL_sI g (by unfold pDr; omega), w4.keep fun a b q => ?_, ⟨⟨?_, ?_, ?_, ?_⟩, fun s hs => absurd hs (Nat.not_lt_zero _), fun s hs => absurd hs (Nat.not_lt_zero _)⟩⟩
          · rcases q with ⟨rfl, q⟩ | rfl
            · rw [gI_nb (by omega)]
            · rw [gI_na (by omega)]
          · rw [gI_nb (by omega), b2.1 _ _ (by unfold pRd; omega), gI_eq, x3]
          · rw [gI_eq, w3]
          · rw [gI_nb (by omega), b2.1 _ _ (by unfold pRd; omega), gI_nb (by omega), b1.1 _ _ (by unfold pRd; omega), hR.1.2.2.1]
          · rw [gI_nb (by omega), b2.1 _ _ (by unfold pRd; omega), gI_nb (by omega), b1.1 _ _ (by unfold pRd; omega), hR.1.2.2.2]
theorem bod_word (hc : cS n B p D) (d : dW W h ns nw D) (hn : nw < 8) (v1 : Int32) : bod n B p W h ns nw (fn_X1_spelling v1 D) fn_X12_readsWord D := by
  have d1 := d.1
  have fr : ∀ {F : zD}, ag (pSp nw) D F → ag pDc D F := fun g => g.mono (by unfold pDc pSp; intros; omega)
  have fl : ∀ {E F : zD}, agL (pRw nw) E F → agL pDr E F := fun g => g.mono (by unfold pDr pRw; intros; omega)
  unfold bod
  refine (c_spelling hc d.2.1.2.2.2 hn d.2.1.2.2.1 (by omega) v1).mono fun q ⟨a1, o⟩ => ?_
  have rd : ∀ E, rdS n B p E → dR W h ns nw D E → _ := fun E hE hR => r_readsWord hE hR.1.2.2.2 hn hR.1.2.2.1 (by omega)
  generalize hs : sk n B p = s at *
  rcases o with ⟨g1, z1, z2⟩ | ⟨g1, g2, z1, z2⟩ | ⟨g1, g2, z1, z2, z3, z4, z5⟩
  · refine ⟨fr a1, Or.inl ⟨z1, _, z2, fun E hE hR => (rd E hE hR).mono fun F ⟨b1, o2⟩ => ?_⟩⟩
    rcases o2 with ⟨_, y⟩ | ⟨k, _⟩ | ⟨k, _⟩
    · exact ⟨fl b1, y⟩
    · exact absurd g1 k
    · exact absurd g1 k
  · refine ⟨fr a1, Or.inl ⟨z1, _, z2, fun E hE hR => (rd E hE hR).mono fun F ⟨b1, o2⟩ => ?_⟩⟩
    rcases o2 with ⟨k, y⟩ | ⟨_, _, y⟩ | ⟨_, k, _⟩
    · exact absurd k g1
    · exact ⟨fl b1, y⟩
    · exact absurd k g2
  · have hsn : s ≤ n := by rw [← hs]; exact (sk_le hc.2.1).2
    have hl := lt6_le (B := B) hsn
    generalize he : lt6 n B s - s = l at *
    have hd : ∀ j, j < l → un (tb n B (s + j)) - 97 < ns := by
      have := g2.2
      rw [he] at this
      exact this
    have hl6 : l ≤ 6 := by have := g2.1; omega
    refine ⟨fr a1, Or.inr ⟨z1, _, W, h, ns, nw + 1, z2, ?_, fun E hE hR => (rd E hE hR).mono fun F ⟨b1, o2⟩ => ?_⟩⟩
    · obtain ⟨_, ⟨e0, e1, e2, e3⟩, h3, h4⟩ := d
      refine ⟨by omega, ⟨by rw [a1 _ _ (by unfold pSp; omega), e0], by rw [a1 _ _ (by unfold pSp; omega), e1], by rw [a1 _ _ (by unfold pSp; omega), e2], z3⟩, fun t ht => ?_, fun k hk => ?_⟩
      · rw [a1 13 _ (by unfold pSp; omega), a1 14 _ (by unfold pSp; omega)]; exact h3 t ht
      · by_cases q : k = nw
        · rw [q]
          exact ⟨l, by omega, hl6, z4, fun i hi => ⟨_, hd i hi, z5 i hi⟩⟩
        · obtain ⟨m, l1, l2, l3, l4⟩ := h4 k (by omega)
          exact ⟨m, l1, l2, by rw [a1 _ _ (by unfold pSp; omega), l3], fun i hi => by rw [a1 _ _ (by unfold pSp; omega)]; exact l4 i hi⟩
    · rcases o2 with ⟨k, y⟩ | ⟨_, k, y⟩ | ⟨_, _, y1, y2, y3, y4⟩
      · exact absurd k g1
      · exact absurd g2 k
      · refine ⟨fl b1, y1, ?_⟩
        obtain ⟨⟨e0, e1, e2, e3⟩, h3, h4⟩ := hR
        refine ⟨⟨by rw [b1.1 _ _ (by unfold pRw; omega), e0], by rw [b1.1 _ _ (by unfold pRw; omega), e1], by rw [b1.1 _ _ (by unfold pRw; omega), e2], y2⟩, fun t ht => ?_, fun k hk => ?_⟩
        · rw [a1 13 _ (by unfold pSp; omega), a1 14 _ (by unfold pSp; omega), b1.1 104 _ (by unfold pRw; omega), b1.1 106 _ (by unfold pRw; omega)]; exact h3 t ht
        · by_cases q : k = nw
          · rw [q]
            refine ⟨by rw [y3, z4], fun m hm m6 i hi => ?_⟩
            have hml : m = l := by
              rw [z4] at hm
              exact ((nEq l m (by omega) (by omega)).mp hm).symm
            rw [y4 i (by omega), z5 i (by omega)]
          · rw [a1 16 _ (by unfold pSp; omega), b1.1 108 _ (by unfold pRw; omega)]
            refine ⟨(h4 k (by omega)).1, fun m hm m6 i hi => ?_⟩
            rw [b1.1 _ _ (by unfold pRw; omega), a1 15 _ (by unfold pSp; omega)]
            exact (h4 k (by omega)).2 m hm m6 i hi
end M9k
