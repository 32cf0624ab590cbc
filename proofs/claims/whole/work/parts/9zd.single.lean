/-! THE MATHEMATICS: a single rule, both -/
def rNot (fAs fOr : zD → Option zD) (D : zD) : Option zD := (fn_X12_opens (3 : Int32) D).bind fun D15 => (fAs D15).bind fun D16 => zlet (sI D16 102 8 ((gI D16 102 8) - (1 : Int32))) fun D17 => (if (gI D17 102 5) = 0 then ((fn_X12_asked_57 fAs fOr zFU (0 : Int32) D17)) else ((some D17)))
def rBra (fOr : zD → Option zD) (D : zD) : Option zD := (fn_X12_opens (1 : Int32) D).bind fun D11 => (fOr D11).bind fun D12 => (fn_X12_closes (93 : Int32) D12).bind fun D13 => zlet (sI D13 102 8 ((gI D13 102 8) - (1 : Int32))) fun D14 => (some D14)
section M9zd
variable {D : zD} {n p s e W h k v : Nat} {B : Nat → Int32} {fAs fOr : zD → Option zD} {Q : zD → Prop}
theorem rR.rd {E F : zD} {fl : Int32} (hE : rR n B p v k W h fl E) (d : rdS n B s F) (g : agL pRd E F) : rR n B s v k W h fl F := ⟨d, by rw [g.1 _ _ (by unfold pRd; omega), hE.2.1], by rw [g.1 _ _ (by unfold pRd; omega), hE.2.2.1], by rw [g.1 _ _ (by unfold pRd; omega), hE.2.2.2.1], by rw [g.1 _ _ (by unfold pRd; omega), hE.2.2.2.2.1], by rw [g.1 _ _ (by unfold pRd; omega), hE.2.2.2.2.2]⟩
theorem r_ask0 {E : zD} (hs : sk n B p = s) (hE : rdS n B p E) (kN : wd n B s (bw 0) → ∀ G, rdS n B s G → agL pRd E G → zok (rNot fAs fOr G) Q) (kB : ¬ wd n B s (bw 0) → tb n B s = 91 → ∀ G, rdS n B s G → agL pRd E G → zok (rBra fOr G) Q) (kP : ¬ wd n B s (bw 0) → ¬ tb n B s = 91 → ∀ G, rdS n B s G → agL pRd E G → zok (rPlain G) Q) : zok (fn_X12_asked fAs fOr E) Q := by
  have ss := sk_sk (B := B) hE.2.1
  rw [hs] at ss
  have h500 := hE.1.1
  unfold fn_X12_asked
  rw [hE.2.2.2.1, if_pos rfl]
  refine (r_blanks hE).bind fun F ⟨f1, f2⟩ => ?_
  rw [hs] at f1
  refine (r_word2 (j := 0) (by omega) rfl f1).bind fun q ⟨a1, d1, o⟩ => ?_
  rw [ss] at d1 o
  rcases o with ⟨w, x⟩ | ⟨w, x⟩
  · rw [x, if_neg (show ¬ (1 : Int32) = 0 by decide)]
    exact kN w q.2 d1 (f2.trans a1)
  · have d2 := d1.2.1
    rw [x, if_pos rfl, d1.2.2.1, r_byteAt d1.1 (by omega), Option.bind_some]
    by_cases t : tb n B s = 91
    · rw [if_pos t]
      exact kB w t q.2 d1 (f2.trans a1)
    · rw [if_neg t]
      exact kP w t q.2 d1 (f2.trans a1)
theorem r_opens {c : Nat} (hD : rdS n B s D) (h8 : gI D 102 8 = nI v) (hv : v < 6) (hc : s + c ≤ n) : zok (fn_X12_opens (nI c) D) fun H => rdS n B (s + c) H ∧ gI H 102 8 = nI (v + 1) ∧ agL (fun a b => ¬ (a = 102 ∧ (b = 4 ∨ b = 8))) D H := by
  have h500 := hD.1.1
  unfold fn_X12_opens fn_X12_opens_18
  have e6 : nI v = (6 : Int32) ↔ v = 6 := nEq v 6 (by omega) (by omega)
  rw [h8, if_neg (fun r => by have := e6.mp r; omega), nI_1, zlet_eq, gI_nb (by omega), hD.2.2.1, nI_add, zlet_eq, zok_some]
  refine ⟨?_, by rw [gI_nb (by omega), gI_eq], agL_sI (agL_sI agL.refl (fun q => q ⟨rfl, Or.inr rfl⟩)) (fun q => q ⟨rfl, Or.inl rfl⟩)⟩
  have := (hD.keep (E := sI D 102 8 (nI (v + 1))) fun a b q => by
    rcases q with ⟨rfl, q⟩ | rfl
    · rw [gI_nb (by omega)]
    · rw [gI_na (by omega)]).pos (e := s + c) hc
  exact this
theorem r_opensF {c : Nat} (hD : rdS n B s D) (h8 : gI D 102 8 = nI 6) (hc : c ≤ 3) : zok (fn_X12_opens (nI c) D) fun H => rdF (3, s) H ∧ agL (fun a b => ¬ (a = 102 ∧ (4 ≤ b ∧ b ≤ 6 ∨ b = 8))) D H := by
  have h500 := hD.1.1
  have hsn := hD.2.1
  unfold fn_X12_opens
  rw [h8, if_pos (show nI 6 = (6 : Int32) from rfl), hD.2.2.1]
  refine (show zok (fn_X12_wrong (nI 3) (nI s) D) _ from r_wrong (k := 3) (pl := s) hD (by omega)).bind fun F ⟨f1, f2, f3⟩ => ?_
  unfold fn_X12_opens_18
  rw [zlet_eq, zlet_eq, zok_some, gI_nb (by omega), f3, hD.2.2.1, nI_add]
  refine ⟨⟨by rw [gI_nb (by omega), gI_nb (by omega)]; exact f1.1, by rw [gI_nb (by omega), gI_nb (by omega)]; exact f1.2.1, by omega, by omega, s + c, by omega, gI_eq⟩, ?_⟩
  exact (f2.mono (by unfold pRd; intros; omega)).trans (agL_sI (agL_sI agL.refl (by omega)) (by omega))
theorem op_rl {E : zD} (g : agL (fun a b => ¬ (a = 102 ∧ (4 ≤ b ∧ b ≤ 6 ∨ b = 8))) D E) : agL (pRl k) D E := g.mono (by unfold pRl; intros; omega)
theorem op_rl2 {E : zD} (g : agL (fun a b => ¬ (a = 102 ∧ (b = 4 ∨ b = 8))) D E) : agL (pRl k) D E := g.mono (by unfold pRl; intros; omega)
theorem rV_s8 {t : Option (List Int32)} {x : Int32} (hV : rV k t D) : rV k t (sI D 102 8 x) := by
  cases t with
  | none =>
    obtain ⟨h1, c, h2, h3⟩ := hV
    exact ⟨by rw [gI_nb (by omega)]; exact h1, c, h2, by rw [gI_na (by omega)]; exact h3⟩
  | some l =>
    obtain ⟨h1, h2, h3, h4⟩ := hV
    exact ⟨by rw [gI_nb (by omega)]; exact h1, h2, by rw [gI_na (by omega)]; exact h3, fun i hi => by rw [gI_na (by omega)]; exact h4 i hi⟩
theorem rdF.s8 {f : Nat × Nat} {x : Int32} (d : rdF f D) : rdF f (sI D 102 8 x) := d.keep fun b q => gI_nb (by omega)
theorem rdS.s8 {x : Int32} (d : rdS n B p D) : rdS n B p (sI D 102 8 x) := d.keep fun a b q => by
  rcases q with ⟨rfl, q⟩ | rfl
  · rw [gI_nb (by omega)]
  · rw [gI_na (by omega)]
theorem rl_s8 {E : zD} {x : Int32} (g : agL (pRl k) D E) : agL (pRl k) D (sI E 102 8 x) := agL_sI g (by unfold pRl; omega)
/-- a plain rule behind blanks -/
theorem sg_up {D1 : zD} {q : Int32 × zD} (hs : sk n B p = s) (hps : p ≤ s) (w : ¬ wd n B s (bw 0)) (t : ¬ tb n B s = 91) (a1 : ag pCs D D1) (hq : sgq n B s W h v k rPlain D1 q) : sgq n B p W h v k (fn_X12_asked fAs fOr) D q := by
  have e22 : gI D1 22 6 = gI D 22 6 := a1 _ _ (by unfold pCs; omega)
  obtain ⟨g, o⟩ := hq
  rw [e22] at o
  have go : ∀ (E : zD) (Q : zD → zD → Prop), rR n B p v k W h (gI D 22 6) E → (∀ G, rR n B s v k W h (gI D 22 6) G → agL pRd E G → zok (rPlain G) (Q E)) → zok (fn_X12_asked fAs fOr E) (Q E) := fun E Q hE hQ => r_ask0 hs hE.1 (fun q => absurd q w) (fun _ q => absurd q t) fun _ _ G g1 g2 => hQ G (hE.rd g1 g2) g2
  rcases o with ⟨q1, f, q2, q3⟩ | ⟨q1, e, t', q2, q3, q4, q5, q6, q7, q8⟩
  · exact ⟨(pCs_l a1).trans g, Or.inl ⟨q1, f, q2, fun E hE => go E (fun E F => agL (pRl k) E F ∧ rdF f F) hE fun G g1 g2 => (q3 G g1).mono fun F ⟨f1, f2⟩ => ⟨(pRd_rl g2).trans f1, f2⟩⟩⟩
  · exact ⟨(pCs_l a1).trans g, Or.inr ⟨q1, e, t', by omega, q3, q4, q5, q6, q7, fun E hE => go E (fun E F => agL (pRl k) E F ∧ rdS n B e F ∧ gI F 102 8 = nI v ∧ gI F 102 27 = nI (k + 1) ∧ rV k t' F) hE fun G g1 g2 => (q8 G g1).mono fun F ⟨f1, f2⟩ => ⟨(pRd_rl g2).trans f1, f2⟩⟩⟩
theorem zcb_q {X : Option (Int32 × zD)} {Q : Int32 × zD → Prop} (hX : zok X Q) (h01 : ∀ q, Q q → q.1 = 0 ∨ q.1 = 1) : zok (X.bind fun q => zcb q.1 <| (some (q.1, q.2))) Q := hX.bind fun q hq => by
  rcases h01 q hq with r | r
  · rw [r, zcb_0, zok_some, ← r]; exact hq
  · rw [r, zcb_1, zok_some, ← r]; exact hq
theorem plq_01 {R : zD → Option zD} {q : Int32 × zD} (hq : plq n B p W h k R D q) : q.1 = 0 ∨ q.1 = 1 := by
  rcases hq.2 with r | r
  · exact Or.inl r.1
  · exact Or.inr r.1
theorem SG_single {fCh fSg : Int32 → Int32 → zD → Option (Int32 × zD)} (hv : v ≤ 6) (hOr : v < 6 → SG n B W h (v + 1) (2 * v + 2) fCh fOr) (hAs : v < 6 → SG n B W h (v + 1) (2 * v + 2) fSg fAs) (FOr : ∀ (f : Nat × Nat) (E : zD), rdF f E → fOr E = some E) (FAs : ∀ (f : Nat × Nat) (E : zD), rdF f E → fAs E = some E) : SG n B W h v (2 * v + 2) (fn_X7_single fCh fSg) (fn_X12_asked fAs fOr) := by
  intro k p D hk hP
  have hb := hP.2.1
  have hk14 := hP.2.2.1
  have h30 := wh_le (w := W) (h := h) (by omega) (by omega)
  have ss := sk_sk (B := B) hP.1.2.1
  have hps := sk_le (B := B) hP.1.2.1
  have h500 := hP.1.1.1
  have e6 : nI v < (6 : Int32) ↔ v < 6 := nLt v 6 (by omega) (by omega)
  unfold fn_X7_single
  refine (c_next hP.1).bind fun q1 ⟨x1, b0, a0⟩ => ?_
  rw [x1]
  generalize hs : sk n B p = s at *
  refine (show zok (fn_X8_takesMark (nI 91) q1.2) _ from c_takesMark (m := 91) (by omega) b0).bind fun q2 ⟨a2, o2⟩ => ?_
  rw [ss] at o2
  replace a2 := a0.trans a2
  have cPk : ∀ {F : zD} {r : Nat}, cS n B r F → ag pCs D F → cP n B r W h k F := fun {F} {r} c g => ⟨c, hb, hk14, by rw [g _ _ (by unfold pCs; omega)]; exact hP.2.2.2.1, by rw [g _ _ (by unfold pCs; omega)]; exact hP.2.2.2.2.1, by rw [g _ _ (by unfold pCs; omega)]; exact hP.2.2.2.2.2⟩
  -- blaming 3: too deep
  have deep : ∀ (D1 : zD) (r : Nat), ¬ v < 6 → cS n B r D1 → ag pCs D D1 → (∀ (E : zD), rR n B p v k W h (gI D 22 6) E → zok (fn_X12_asked fAs fOr E) fun F => agL (pRl k) E F ∧ rdF (3, s) F) → zok ((fn_X8_blame (3 : Int32) (nI s) D1).bind fun q52 => zcb q52.1 <| (some (q52.1, q52.2))) (sgq n B p W h v k (fn_X12_asked fAs fOr) D) := by
    intro D1 r hv6 c g hE
    refine (show zok (fn_X8_blame (nI 3) (nI s) D1) _ from c_blame c 3 s).bind fun q ⟨y1, y2, y3⟩ => ?_
    rw [y1, zcb_0, zok_some]
    exact ⟨pCs_l (g.trans y3), Or.inl ⟨rfl, _, y2, hE⟩⟩
  rcases o2 with ⟨t, tn, x2, d2⟩ | ⟨t, x2, d2⟩
  · -- a bracket
    have nw : ¬ wd n B s (bw 0) := fun w => by
      have := w.2 0 (by decide)
      rw [Nat.add_zero, t] at this
      exact absurd this (by decide)
    rw [x2, if_neg (show ¬ (1 : Int32) = 0 by decide)]
    by_cases q6 : v < 6
    · rw [if_pos (e6.mpr q6), nI_1]
      have e22 : gI q2.2 22 6 = gI D 22 6 := a2 _ _ (by unfold pCs; omega)
      refine (hOr q6 k (s + 1) q2.2 (by omega) (cPk d2 a2)).bind fun q48 ⟨a48, o48⟩ => ?_
      rw [e22] at o48
      have go : ∀ (E : zD) (Q1 Q : zD → Prop), rR n B p v k W h (gI D 22 6) E → (∀ G, rR n B (s + 1) (v + 1) k W h (gI D 22 6) G → agL (pRl k) E G → zok (fOr G) Q1) → (∀ G, Q1 G → zok ((fn_X12_closes (93 : Int32) G).bind fun D13 => zlet (sI D13 102 8 ((gI D13 102 8) - (1 : Int32))) fun D14 => (some D14)) Q) → zok (fn_X12_asked fAs fOr E) Q := by
        intro E Q1 Q hE k1 k2
        refine r_ask0 hs hE.1 (fun q => absurd q nw) (fun _ _ G g1 g2 => ?_) fun _ q => absurd t q
        have hG := hE.rd g1 g2
        unfold rBra
        refine (show zok (fn_X12_opens (nI 1) G) _ from r_opens (c := 1) g1 hG.2.1 q6 (by omega)).bind fun H ⟨h1, h2, h3⟩ => ?_
        exact (k1 H ⟨h1, h2, by rw [h3.1 _ _ (by omega), hG.2.2.1], by rw [h3.1 _ _ (by omega), hG.2.2.2.1], by rw [h3.1 _ _ (by omega), hG.2.2.2.2.1], by rw [h3.1 _ _ (by omega), hG.2.2.2.2.2]⟩ ((pRd_rl g2).trans (op_rl2 h3))).bind k2
      rcases o48 with ⟨z1, f, z2, z3⟩ | ⟨z1, e, t', z2, z3, z4, z5, z6, z7, z8⟩
      · rw [z1, if_pos rfl, zok_some]
        refine ⟨(pCs_l a2).trans a48, Or.inl ⟨rfl, f, z2, fun E hE => go E (fun F => agL (pRl k) E F ∧ rdF f F) _ hE (fun G g1 g2 => (z3 G g1).mono fun F ⟨f1, f2⟩ => ⟨g2.trans f1, f2⟩) fun G ⟨g1, g2⟩ => ?_⟩⟩
        rw [r_closesF g2, Option.bind_some, zlet_eq, zok_some]
        exact ⟨rl_s8 g1, g2.s8⟩
      · rw [z1, if_neg (show ¬ (1 : Int32) = 0 by decide)]
        have ez := z3.2.1
        refine (show zok (fn_X8_needsMark (nI 93) q48.2) _ from c_needsMark (m := 93) (by omega) z3).bind fun q50 ⟨a50, o50⟩ => ?_
        have hse := sk_le (B := B) ez
        have ref : ∀ (E : zD) (Q : zD → Prop), rR n B p v k W h (gI D 22 6) E → (∀ F, agL (pRl k) E F → gI F 102 27 = nI (k + 1) → rV k t' F → ((tb n B (sk n B e) = nI 93 ∧ sk n B e < n ∧ rdS n B (sk n B e + 1) F ∧ gI F 102 8 = nI v) ∨ (¬ tb n B (sk n B e) = nI 93 ∧ rdF (1, sk n B e) F)) → Q F) → zok (fn_X12_asked fAs fOr E) Q := by
          intro E Q hE hQ
          refine go E (fun F => agL (pRl k) E F ∧ rdS n B e F ∧ gI F 102 8 = nI (v + 1) ∧ gI F 102 27 = nI (k + 1) ∧ rV k t' F) _ hE (fun G g1 g2 => (z8 G g1).mono fun F ⟨f1, f2⟩ => ⟨g2.trans f1, f2⟩) fun G ⟨g1, g2, g3, g4, g5⟩ => ?_
          refine (show zok (fn_X12_closes (nI 93) G) _ from r_closes (m := 93) (by omega) g2).bind fun H ⟨h1, h2⟩ => ?_
          rw [zlet_eq, zok_some, h1.1 102 8 (by unfold pRd; omega), g3, nI_m1]
          refine hQ _ (rl_s8 (g1.trans (pRd_rl h1))) (by rw [gI_nb (by omega), h1.1 _ _ (by unfold pRd; omega), g4]) (rV_s8 (rV_rd g5 h1)) ?_
          rcases h2 with ⟨w1, w2, w3⟩ | ⟨w1, w2⟩
          · exact Or.inl ⟨w1, w2, w3.s8, gI_eq⟩
          · exact Or.inr ⟨w1, w2.s8⟩
        rcases o50 with ⟨y1, y2, y3, y4⟩ | ⟨y1, y3, y4⟩
        · rw [y3, if_neg (show ¬ (1 : Int32) = 0 by decide), zok_some]
          refine ⟨((pCs_l a2).trans a48).trans (pCs_l a50), Or.inr ⟨rfl, sk n B e + 1, t', by omega, y4, cV_cs z4 (by omega) a50, z5, z6, z7, fun E hE => ref E _ hE fun F f1 f2 f3 f4 => ?_⟩⟩
          rcases f4 with ⟨_, _, w3, w4⟩ | ⟨w, _⟩
          · exact ⟨f1, w3, w4, f2, f3⟩
          · exact absurd y1 w
        · rw [y3, if_pos rfl, zok_some]
          refine ⟨((pCs_l a2).trans a48).trans (pCs_l a50), Or.inl ⟨rfl, _, y4, fun E hE => ref E _ hE fun F f1 f2 f3 f4 => ?_⟩⟩
          rcases f4 with ⟨w, _⟩ | ⟨_, w⟩
          · exact absurd w y1
          · exact ⟨f1, w⟩
    · rw [if_neg (fun r => q6 (e6.mp r))]
      refine deep q2.2 _ q6 d2 a2 fun E hE => ?_
      have v6 : v = 6 := by omega
      refine r_ask0 hs hE.1 (fun q => absurd q nw) (fun _ _ G g1 g2 => ?_) fun _ q => absurd t q
      unfold rBra
      refine (show zok (fn_X12_opens (nI 1) G) _ from r_opensF (c := 1) g1 (by rw [(hE.rd g1 g2).2.1, v6]) (by omega)).bind fun H ⟨h1, h2⟩ => ?_
      rw [FOr _ _ h1, Option.bind_some, r_closesF h1, Option.bind_some, zlet_eq, zok_some]
      exact ⟨rl_s8 ((pRd_rl g2).trans (op_rl h2)), h1.s8⟩
  · rw [x2, if_pos rfl]
    have t91 : ¬ tb n B s = 91 := t
    refine (c_word2 (j := 0) (by omega) d2).bind fun q4 ⟨a4, o4⟩ => ?_
    rw [ss] at o4
    replace a4 := a2.trans a4
    rcases o4 with ⟨w0, x4, d4⟩ | ⟨w0, x4, d4⟩
    · -- not
      have wl := (wd_len hps.2 w0).2
      rw [x4, if_neg (show ¬ (1 : Int32) = 0 by decide)]
      by_cases q6 : v < 6
      · rw [if_pos (e6.mpr q6), nI_1]
        have e22 : gI q4.2 22 6 = gI D 22 6 := a4 _ _ (by unfold pCs; omega)
        refine (hAs q6 k (s + (bw 0).length) q4.2 (by omega) (cPk d4 a4)).bind fun q39 ⟨a39, o39⟩ => ?_
        rw [e22] at o39
        have go : ∀ (E : zD) (Q1 Q : zD → Prop), rR n B p v k W h (gI D 22 6) E → (∀ G, rR n B (s + (bw 0).length) (v + 1) k W h (gI D 22 6) G → agL (pRl k) E G → zok (fAs G) Q1) → (∀ G, Q1 G → zok (zlet (sI G 102 8 ((gI G 102 8) - (1 : Int32))) fun D17 => (if (gI D17 102 5) = 0 then ((fn_X12_asked_57 fAs fOr zFU (0 : Int32) D17)) else ((some D17)))) Q) → zok (fn_X12_asked fAs fOr E) Q := by
          intro E Q1 Q hE k1 k2
          refine r_ask0 hs hE.1 (fun _ G g1 g2 => ?_) (fun q => absurd w0 q) fun q => absurd w0 q
          have hG := hE.rd g1 g2
          unfold rNot
          refine (show zok (fn_X12_opens (nI 3) G) _ from r_opens (c := 3) g1 hG.2.1 q6 wl).bind fun H ⟨h1, h2, h3⟩ => ?_
          exact (k1 H ⟨h1, h2, by rw [h3.1 _ _ (by omega), hG.2.2.1], by rw [h3.1 _ _ (by omega), hG.2.2.2.1], by rw [h3.1 _ _ (by omega), hG.2.2.2.2.1], by rw [h3.1 _ _ (by omega), hG.2.2.2.2.2]⟩ ((pRd_rl g2).trans (op_rl2 h3))).bind k2
        rcases o39 with ⟨z1, f, z2, z3⟩ | ⟨z1, e, t', z2, z3, z4, z5, z6, z7, z8⟩
        · rw [z1, if_pos rfl, zok_some]
          refine ⟨(pCs_l a4).trans a39, Or.inl ⟨rfl, f, z2, fun E hE => go E (fun F => agL (pRl k) E F ∧ rdF f F) _ hE (fun G g1 g2 => (z3 G g1).mono fun F ⟨f1, f2⟩ => ⟨g2.trans f1, f2⟩) fun G ⟨g1, g2⟩ => ?_⟩⟩
          rw [zlet_eq, if_neg (rdF_ne g2.s8), zok_some]
          exact ⟨rl_s8 g1, g2.s8⟩
        · rw [z1, if_neg (show ¬ (1 : Int32) = 0 by decide), c_at7 hk14, Option.bind_some]
          have b4 : gI q39.2 22 4 = nI W := by rw [a39 _ _ (by unfold pCl; omega), a4 _ _ (by unfold pCs; omega)]; exact hP.2.2.2.1
          have b5 : gI q39.2 22 5 = nI h := by rw [a39 _ _ (by unfold pCl; omega), a4 _ _ (by unfold pCs; omega)]; exact hP.2.2.2.2.1
          refine (c_complement z4 (by omega) b4 b5 (by omega) (by omega)).bind fun q43 ⟨y1, y2, y3⟩ => ?_
          rw [y1, if_neg (show ¬ (1 : Int32) = 0 by decide), zok_some]
          have okm : okc (W * h) (t'.map (cpl (W * h))) := fun l hl => by
            cases t' with
            | none => cases hl
            | some m => cases hl; exact okl_cpl h30 (z5 m rfl)
          have nem : nes (t'.map (cpl (W * h))) := fun l hl => by
            cases t' with
            | none => cases hl
            | some m => cases hl; rw [cpl_len]; exact z6 m rfl
          refine ⟨((pCs_l a4).trans a39).trans (y3.mono (by unfold pCl; intros; omega)), Or.inr ⟨rfl, e, t'.map (cpl (W * h)), by omega, z3.keep fun a b r => y3 _ _ (by omega), y2, okm, nem, fun h1 => by rw [z7 h1]; rfl, fun E hE => ?_⟩⟩
          refine go E (fun F => agL (pRl k) E F ∧ rdS n B e F ∧ gI F 102 8 = nI (v + 1) ∧ gI F 102 27 = nI (k + 1) ∧ gI F 102 14 = nI W ∧ gI F 102 15 = nI h ∧ rV k t' F) _ hE (fun G g1 g2 => (z8 G g1).mono fun F ⟨f1, f2, f3, f4, f5⟩ => ⟨g2.trans f1, f2, f3, f4, by rw [f1.1 _ _ (by unfold pRl; omega), g1.2.2.2.1], by rw [f1.1 _ _ (by unfold pRl; omega), g1.2.2.2.2.1], f5⟩) fun G ⟨g1, g2, g3, g4, g6, g7, g5⟩ => ?_
          rw [zlet_eq, g3, nI_m1, gI_nb (by omega), g2.2.2.2.1, if_pos rfl]
          refine (r_complement (W := W) (h := h) (rV_s8 (x := nI v) g5) (by omega) (by rw [gI_nb (by omega), g4]) (by rw [gI_nb (by omega), g6]) (by rw [gI_nb (by omega), g7]) (by omega) (by omega)).mono fun F ⟨f1, f2⟩ => ⟨(rl_s8 g1).trans (f2.mono (by unfold pRl; intros; omega)), g2.s8.keep fun a b r => f2.1 _ _ (by omega), by rw [f2.1 _ _ (by omega), gI_eq], by rw [f2.1 _ _ (by omega), gI_nb (by omega), g4], f1⟩
      · rw [if_neg (fun r => q6 (e6.mp r))]
        refine deep q4.2 _ q6 d4 a4 fun E hE => ?_
        have v6 : v = 6 := by omega
        refine r_ask0 hs hE.1 (fun _ G g1 g2 => ?_) (fun q => absurd w0 q) fun q => absurd w0 q
        unfold rNot
        refine (show zok (fn_X12_opens (nI 3) G) _ from r_opensF (c := 3) g1 (by rw [(hE.rd g1 g2).2.1, v6]) (by omega)).bind fun H ⟨h1, h2⟩ => ?_
        rw [FAs _ _ h1, Option.bind_some, zlet_eq, if_neg (rdF_ne h1.s8), zok_some]
        exact ⟨rl_s8 ((pRd_rl g2).trans (op_rl h2)), h1.s8⟩
    rw [x4, if_pos rfl]
    have n0 : ∀ i, i < 0 → ¬ wd n B s (bw (i + 1)) := fun i hi => absurd hi (Nat.not_lt_zero _)
    have up : ∀ (j : Nat), (∀ i, i < j → ¬ wd n B s (bw (i + 1))) → ¬ wd n B s (bw (j + 1)) → ∀ i, i < j + 1 → ¬ wd n B s (bw (i + 1)) := fun j h1 h2 i hi => by
      by_cases e : i = j
      · rw [e]; exact h2
      · exact h1 i (by omega)
    refine (c_word2 (j := 1) (by omega) d4).bind fun q6 ⟨a6, o6⟩ => ?_
    rw [ss] at o6
    replace a6 := a4.trans a6
    rcases o6 with ⟨w1, x6, d6⟩ | ⟨w1, x6, d6⟩
    · rw [x6, if_neg (show ¬ (1 : Int32) = 0 by decide), c_at7 hk14, Option.bind_some]
      have PP := cPk d6 a6
      exact (zcb_q (pl_side PP) fun q hq => plq_01 hq).mono fun q hq => sg_up hs hps.1 w0 t91 a6 (pl_sg PP.2.2.2.2.2 ss (j := 0) (by omega) w1 n0 hk14 hq)
    rw [x6, if_pos rfl]
    have n1 := up 0 n0 w1
    refine (c_word2 (j := 2) (by omega) d6).bind fun q8 ⟨a8, o8⟩ => ?_
    rw [ss] at o8
    replace a8 := a6.trans a8
    rcases o8 with ⟨w2, x8, d8⟩ | ⟨w2, x8, d8⟩
    · rw [x8, if_neg (show ¬ (1 : Int32) = 0 by decide), c_at7 hk14, Option.bind_some]
      have PP := cPk d8 a8
      exact (zcb_q (pl_corner PP) fun q hq => plq_01 hq).mono fun q hq => sg_up hs hps.1 w0 t91 a8 (pl_sg PP.2.2.2.2.2 ss (j := 1) (by omega) w2 n1 hk14 hq)
    rw [x8, if_pos rfl]
    have n2 := up 1 n1 w2
    refine (c_word2 (j := 3) (by omega) d8).bind fun q10 ⟨a10, o10⟩ => ?_
    rw [ss] at o10
    replace a10 := a8.trans a10
    rcases o10 with ⟨w3, x10, d10⟩ | ⟨w3, x10, d10⟩
    · rw [x10, if_neg (show ¬ (1 : Int32) = 0 by decide), c_at7 hk14, Option.bind_some]
      have PP := cPk d10 a10
      exact (zcb_q (pl_any PP) fun q hq => plq_01 hq).mono fun q hq => sg_up hs hps.1 w0 t91 a10 (pl_sg PP.2.2.2.2.2 ss (j := 2) (by omega) w3 n2 hk14 hq)
    rw [x10, if_pos rfl]
    have n3 := up 2 n2 w3
    refine (c_word2 (j := 4) (by omega) d10).bind fun q12 ⟨a12, o12⟩ => ?_
    rw [ss] at o12
    replace a12 := a10.trans a12
    rcases o12 with ⟨w4, x12, d12⟩ | ⟨w4, x12, d12⟩
    · rw [x12, if_neg (show ¬ (1 : Int32) = 0 by decide), c_at7 hk14, Option.bind_some]
      have PP := cPk d12 a12
      exact (zcb_q (pl_front PP) fun q hq => plq_01 hq).mono fun q hq => sg_up hs hps.1 w0 t91 a12 (pl_sg PP.2.2.2.2.2 ss (j := 3) (by omega) w4 n3 hk14 hq)
    rw [x12, if_pos rfl]
    have n4 := up 3 n3 w4
    refine (c_word2 (j := 5) (by omega) d12).bind fun q14 ⟨a14, o14⟩ => ?_
    rw [ss] at o14
    replace a14 := a12.trans a14
    rcases o14 with ⟨w5, x14, d14⟩ | ⟨w5, x14, d14⟩
    · rw [x14, if_neg (show ¬ (1 : Int32) = 0 by decide), c_at7 hk14, Option.bind_some]
      have PP := cPk d14 a14
      exact (zcb_q (pl_fog PP) fun q hq => plq_01 hq).mono fun q hq => sg_up hs hps.1 w0 t91 a14 (pl_sg PP.2.2.2.2.2 ss (j := 4) (by omega) w5 n4 hk14 hq)
    rw [x14, if_pos rfl]
    have n5 := up 4 n4 w5
    refine (show zok (fn_X8_blame (nI 1) (nI s) _) _ from c_blame d14 1 s).bind fun r ⟨r1, r2, r3⟩ => ?_
    rw [r1, zcb_0, zok_some]
    refine ⟨pCs_l (a14.trans r3), Or.inl ⟨rfl, _, r2, fun E hE => ?_⟩⟩
    refine r_ask0 hs hE.1 (fun q => absurd q w0) (fun _ q => absurd q t91) fun _ _ G g1 g2 => ?_
    have hG := hE.rd g1 g2
    unfold rPlain
    refine (r_clearMade (by rw [hG.2.2.2.2.2]; exact hP.2.2.2.2.2)).bind fun H ⟨h1, h2⟩ => ?_
    refine (r_plainN (g1.mk h2) ss n5).bind fun F ⟨f1, f2⟩ => ?_
    rw [if_neg (rdF_ne f2), zok_some]
    exact ⟨((pRd_rl g2).trans (pPl_rl (pMk_l h2))).trans (pRd_rl f1), f2⟩
end M9zd
