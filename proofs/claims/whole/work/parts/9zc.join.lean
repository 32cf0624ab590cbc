/-! THE MATHEMATICS: rules joined by and, by or, both -/
def rQ (n : Nat) (B : Nat → Int32) (e v k W h : Nat) (s : Option (List Int32)) (E : zD) : Prop := rdS n B e E ∧ gI E 102 8 = nI v ∧ gI E 102 27 = nI (k + 1) ∧ gI E 102 14 = nI W ∧ gI E 102 15 = nI h ∧ rV k s E
def lpq (n : Nat) (B : Nat → Int32) (e W h v k j : Nat) (s : Option (List Int32)) (R : Nat → zD → Option zD) (D : zD) (q : Int32 × zD) : Prop :=
  ag (pCl k) D q.2 ∧ ((q.1 = 0 ∧ ∃ f, cF f q.2 ∧ ∀ E m, j < m → rQ n B e v k W h s E → zok (R m E) fun F => agL (pRl k) E F ∧ rdF f F) ∨
    (q.1 = 1 ∧ ∃ e' s', e ≤ e' ∧ cS n B e' q.2 ∧ cV (27 + 2 * k) s' q.2 ∧ okc (W * h) s' ∧ nes s' ∧ (gI D 22 6 = 1 → s' = none) ∧ ∀ E m, j < m → rQ n B e v k W h s E → zok (R m E) fun F => agL (pRl k) E F ∧ rdS n B e' F ∧ gI F 102 8 = nI v ∧ gI F 102 27 = nI (k + 1) ∧ rV k s' F))
section M9zc
variable {D : zD} {n p e W h k v : Nat} {B : Nat → Int32}
theorem r_eats {j : Nat} (hj : j < 8) {a b c : Int32} (hs : fn_X12_six a b c 0 0 0 = some (nI (cdl (bw j)))) (hd : rdS n B p D) : zok (fn_X12_eats a b c D) fun q => agL pRd D q.2 ∧ ((wd n B (sk n B p) (bw j) ∧ q.1 = 1 ∧ rdS n B (sk n B p + (bw j).length) q.2) ∨ (¬ wd n B (sk n B p) (bw j) ∧ q.1 = 0 ∧ rdS n B (sk n B p) q.2)) := by
  unfold fn_X12_eats
  refine (r_word2 hj hs hd).bind fun q ⟨a1, d1, o⟩ => ?_
  rcases o with ⟨w1, x1⟩ | ⟨w1, x1⟩
  · rw [x1, if_neg (show ¬ (1 : Int32) = 0 by decide)]
    refine (r_skipWord d1).bind fun E ⟨e1, e2⟩ => ?_
    rw [zok_some]
    rw [(wd_len d1.2.1 w1).1] at e1
    exact ⟨a1.trans e2, Or.inl ⟨w1, rfl, e1⟩⟩
  · rw [x1, if_pos rfl, zok_some]
    exact ⟨a1, Or.inr ⟨w1, rfl, d1⟩⟩
theorem r_eatsF {f : Nat × Nat} (k : rdF f D) (a b c : Int32) : fn_X12_eats a b c D = some (0, D) := by
  unfold fn_X12_eats
  rw [r_isWordF k, Option.bind_some, if_pos rfl]
theorem wd_end {w : List Nat} (hw : 1 ≤ w.length) : ¬ wd n B n w := fun t => by
  have h1 := lt6_le (n := n) (B := B) (p := n) (Nat.le_refl _)
  have := t.1
  omega
theorem pCl_up {E : zD} (g : ag (pCl (k + 1)) D E) : ag (pCl k) D E := g.mono (by unfold pCl; intros; omega)
theorem pRl_up {E : zD} (g : agL (pRl (k + 1)) D E) : agL (pRl k) D E := g.mono (by unfold pRl; intros; omega)
theorem pOv_l {E : zD} (hk : k ≤ 14) (g : ag (pOv (27 + 2 * k)) D E) : ag (pCl k) D E := g.mono (by unfold pCl pOv; intros; omega)
theorem pNd_rl {E : zD} (hk : k ≤ 29) (g : agL (pNd k) D E) : agL (pRl k) D E := g.mono (by unfold pRl pNd; intros; omega)
theorem nes_ovl {l1 l2 : List Int32} {z : Option (List Int32)} (h1 : 1 ≤ l1.length) (h2 : 1 ≤ l2.length) : nes (ovl l1 l2 z) := fun l hl => ovl_pos h1 h2 hl
theorem nes_ful {l1 : List Int32} {z : Option (List Int32)} (h1 : 1 ≤ l1.length) : nes (ful l1 z) := fun l hl => ful_pos h1 hl
theorem ovl_none {l1 l2 : List Int32} : ovl l1 l2 none = none := zfo_none (fun i => zfo_none (fun j => rfl) _ _) _ _
theorem ful_none {l1 : List Int32} : ful l1 none = none := zfo_none (fun i => rfl) _ _
theorem cV_cs {s : Option (List Int32)} {E : zD} {a : Nat} (hV : cV a s D) (ha : 27 ≤ a) (g : ag pCs D E) : cV a s E := by
  cases s with
  | none =>
    obtain ⟨h1, c, h2, h3⟩ := hV
    exact ⟨by rw [g _ _ (by unfold pCs; omega)]; exact h1, c, h2, by rw [g _ _ (by unfold pCs; omega)]; exact h3⟩
  | some l =>
    obtain ⟨h1, h2, h3, h4⟩ := hV
    exact ⟨by rw [g _ _ (by unfold pCs; omega)]; exact h1, h2, by rw [g _ _ (by unfold pCs; omega)]; exact h3, fun i hi => by rw [g _ _ (by unfold pCs; omega)]; exact h4 i hi⟩
theorem rV_rd {s : Option (List Int32)} {E : zD} (hV : rV k s D) (g : agL pRd D E) : rV k s E := by
  cases s with
  | none =>
    obtain ⟨h1, c, h2, h3⟩ := hV
    exact ⟨by rw [g.1 _ _ (by unfold pRd; omega)]; exact h1, c, h2, by rw [g.1 _ _ (by unfold pRd; omega)]; exact h3⟩
  | some l =>
    obtain ⟨h1, h2, h3, h4⟩ := hV
    exact ⟨by rw [g.1 _ _ (by unfold pRd; omega)]; exact h1, h2, by rw [g.1 _ _ (by unfold pRd; omega)]; exact h3, fun i hi => by rw [g.1 _ _ (by unfold pRd; omega)]; exact h4 i hi⟩
/-- what joins two levels -/
theorem c_join_and {s s2 : Option (List Int32)} {D0 : zD} (hk : k ≤ 13) (h30 : W * h ≤ 30) (hV : cV (27 + 2 * k) s D0) (g : ag (pCl (k + 1)) D0 D) (hV2 : cV (27 + 2 * (k + 1)) s2 D) (o1 : okc (W * h) s) (o2 : okc (W * h) s2) (n1 : nes s) (n2 : nes s2) (st : gI D0 22 6 = 1 → s2 = none) :
    ∃ s3, okc (W * h) s3 ∧ nes s3 ∧ (gI D0 22 6 = 1 → s3 = none) ∧ (∀ l1 l2, (∀ m, s = some m → m = l1) → (∀ m, s2 = some m → m = l2) → ovl l1 l2 (zst (gI D 22 6)) = s3) ∧ zok (fn_X7_overlay (27 + 2 * k) (27 + 2 * (k + 1)) D) fun E => cV (27 + 2 * k) s3 E ∧ ag (pOv (27 + 2 * k)) D E := by
  obtain ⟨l1, a1, a2, a3⟩ := cV_cnt hV
  obtain ⟨l2, b1, b2, b3⟩ := cV_cnt hV2
  have a2' : cL (27 + 2 * k) l1 D := ⟨by rw [g _ _ (by unfold pCl; omega)]; exact a2.1, fun i hi => by rw [g _ _ (by unfold pCl; omega)]; exact a2.2 i hi⟩
  rcases cV_fl hV2 with ⟨x, y⟩ | ⟨x, y⟩
  · have f0 : gI D0 22 6 = 0 ∧ s ≠ none := by
      rcases cV_fl hV with q | q
      · exact q
      · exact absurd (st q.1) y
    obtain ⟨m1, e1⟩ := Option.ne_none_iff_exists'.mp f0.2
    obtain ⟨m2, e2⟩ := Option.ne_none_iff_exists'.mp y
    have := a3 m1 e1
    subst this
    have := b3 m2 e2
    subst this
    refine ⟨ovl m1 m2 (some []), okc_ovl (by omega) (o1 m1 e1) (o2 m2 e2) okc_nil, nes_ovl (n1 m1 e1) (n2 m2 e2), fun q => by rw [f0.1] at q; exact absurd q (by decide), fun l1 l2 q1 q2 => by
      have := q1 m1 e1
      subst this
      have := q2 m2 e2
      subst this
      unfold zst
      rw [if_pos x], c_overlay (by omega) (by omega) a2' b2 (o1 m1 e1) (o2 m2 e2) h30 x⟩
  · refine ⟨none, fun l hl => (by cases hl), fun l hl => (by cases hl), fun _ => rfl, fun l1 l2 _ _ => by
      unfold zst
      rw [if_neg (by rw [x]; decide)]
      exact ovl_none, ?_⟩
    rw [(c_skips x).2, zok_some]
    exact ⟨⟨x, l1.length, a1, a2'.1⟩, ag.refl⟩
theorem lp_and {fC : Int32 → Int32 → zD → Option (Int32 × zD)} {fR : zD → Option zD} {kb : Nat} (hS : SG n B W h v (kb + 1) fC fR) (hkb : kb ≤ 13) : ∀ (j i k e : Nat) (s : Option (List Int32)) (m : Nat) (D : zD), i + j = 500 → j < m → k ≤ kb → i ≤ e → cP n B e W h k D → cV (27 + 2 * k) s D → okc (W * h) s → nes s → zok (fn_X7_both_13 fC (nI v) (nI k) m (nI i) D) (lpq n B e W h v k j s (fun m E => fn_X12_ands_4 fR m E) D) := by
  intro j
  induction j with
  | zero =>
    intro i k e s m D hij hm hk hie hP hV ho hn
    obtain ⟨m, rfl⟩ : ∃ x, m = x + 1 := ⟨m - 1, by omega⟩
    have h500 := hP.1.1.1
    have hen := hP.1.2.1
    have en : e = n := by omega
    rw [fn_X7_both_13, show i = 500 by omega, if_pos (show (500 : Int32) ≤ nI 500 by decide), zok_some]
    refine ⟨ag.refl, Or.inr ⟨rfl, e, s, Nat.le_refl _, hP.1, hV, ho, hn, fun h1 => ?_, fun E m hm hE => ?_⟩⟩
    · rcases cV_fl hV with q | q
      · rw [q.1] at h1; exact absurd h1 (by decide)
      · exact q.2
    · obtain ⟨m, rfl⟩ : ∃ x, m = x + 1 := ⟨m - 1, by omega⟩
      show zok (fn_X12_ands_4 fR (m + 1) E) _
      rw [fn_X12_ands_4]
      refine (r_eats (j := 6) (by omega) rfl hE.1).bind fun q ⟨a1, o⟩ => ?_
      have hsk := sk_le (B := B) hen
      rw [show sk n B e = n by omega] at o
      rcases o with ⟨w, _⟩ | ⟨_, x, d1⟩
      · exact absurd w (wd_end (by decide))
      · rw [x, if_pos rfl, zok_some]
        refine ⟨pRd_rl a1, by rw [en]; exact d1, by rw [a1.1 _ _ (by unfold pRd; omega), hE.2.1], by rw [a1.1 _ _ (by unfold pRd; omega), hE.2.2.1], ?_⟩
        exact rV_rd hE.2.2.2.2.2 a1
  | succ j ih =>
    intro i k e s m D hij hm hk hie hP hV ho hn
    obtain ⟨m, rfl⟩ : ∃ x, m = x + 1 := ⟨m - 1, by omega⟩
    have hb := hP.2.1
    have h30 := wh_le (w := W) (h := h) (by omega) (by omega)
    have hen := hP.1.2.1
    have hsk := sk_le (B := B) hen
    have hfl : gI D 22 6 = 1 → s = none := fun h1 => by
      rcases cV_fl hV with q | q
      · rw [q.1] at h1; exact absurd h1 (by decide)
      · exact q.2
    rw [fn_X7_both_13, if_neg (show ¬ (500 : Int32) ≤ nI i from nI_ge (a := i) (b := 500) (by omega) (by omega))]
    refine (c_word2 (j := 6) (by omega) hP.1).bind fun q4 ⟨a4, o⟩ => ?_
    rcases o with ⟨w, x4, d4⟩ | ⟨w, x4, d4⟩
    · rw [x4, if_neg (show ¬ (1 : Int32) = 0 by decide), nI_1]
      have hV4 : cV (27 + 2 * k) s q4.2 := cV_cs hV (by omega) a4
      have fl4 : gI q4.2 22 6 = gI D 22 6 := a4 _ _ (by unfold pCs; omega)
      have P4 : cP n B (sk n B e + (bw 6).length) W h (k + 1) q4.2 := ⟨d4, hb, by omega, by rw [a4 _ _ (by unfold pCs; omega)]; exact hP.2.2.2.1, by rw [a4 _ _ (by unfold pCs; omega)]; exact hP.2.2.2.2.1, by rw [fl4]; exact hP.2.2.2.2.2⟩
      have lw : 1 ≤ (bw 6).length := by decide
      -- the reference as far as the second rule
      have ref : ∀ (E : zD) (m' : Nat) (Q1 Q : zD → Prop), rQ n B e v k W h s E → (∀ G, rR n B (sk n B e + (bw 6).length) v (k + 1) W h (gI q4.2 22 6) G → agL pRd E G → zok (fR G) Q1) → (∀ G1 G, agL pRd E G1 → Q1 G → zok (if (gI G 102 5) = 0 then ((fn_X12_clearMade G).bind fun D6 => (fn_X12_ands_33 fR (fn_X12_ands_4 fR m') zFU (0 : Int32) D6)) else ((some G))) Q) → zok (fn_X12_ands_4 fR (m' + 1) E) Q := by
        intro E m' Q1 Q hE k1 k2
        rw [fn_X12_ands_4]
        refine (r_eats (j := 6) (by omega) rfl hE.1).bind fun r ⟨g1, o⟩ => ?_
        rcases o with ⟨_, y, d⟩ | ⟨y, _⟩
        · rw [y, if_neg (show ¬ (1 : Int32) = 0 by decide)]
          exact (k1 r.2 ⟨d, by rw [g1.1 _ _ (by unfold pRd; omega), hE.2.1], by rw [g1.1 _ _ (by unfold pRd; omega), hE.2.2.1], by rw [g1.1 _ _ (by unfold pRd; omega), hE.2.2.2.1], by rw [g1.1 _ _ (by unfold pRd; omega), hE.2.2.2.2.1], by rw [g1.1 _ _ (by unfold pRd; omega), fl4, fl_eq hV hE.2.2.2.2.2]⟩ g1).bind fun G hG => k2 r.2 G g1 hG
        · exact absurd w y
      refine (hS (k + 1) _ q4.2 (by omega) P4).bind fun q6 ⟨a6, o6⟩ => ?_
      rcases o6 with ⟨x6, f, y1, y2⟩ | ⟨x6, e2, s2, y1, y2, y3, y4, y5, y6, y7⟩
      · rw [x6, if_pos rfl, zok_some]
        refine ⟨(pCs_l a4).trans (pCl_up a6), Or.inl ⟨rfl, f, y1, fun E m' hm' hE => ?_⟩⟩
        obtain ⟨m', rfl⟩ : ∃ x, m' = x + 1 := ⟨m' - 1, by omega⟩
        refine ref E m' (fun F => agL (pRl k) E F ∧ rdF f F) _ hE (fun G g1 g2 => (y2 G g1).mono fun F ⟨f1, f2⟩ => ⟨(pRd_rl g2).trans (pRl_up f1), f2⟩) fun _ G _ ⟨g1, g2⟩ => ?_
        rw [if_neg (rdF_ne g2), zok_some]
        exact ⟨g1, g2⟩
      · rw [x6, if_neg (show ¬ (1 : Int32) = 0 by decide), c_at7 (by omega), Option.bind_some, c_at7 (by omega), Option.bind_some]
        obtain ⟨s3, t1, t2, t3, t4, t5⟩ := c_join_and (k := k) (W := W) (h := h) (D := q6.2) (by omega) h30 hV4 a6 y3 ho y4 hn y5 y6
        refine t5.bind fun E ⟨e1, e3⟩ => ?_
        have P5 : cP n B e2 W h k E := ⟨y2.keep fun a b r => e3 _ _ (by unfold pOv; omega), hb, by omega, ?_, ?_, ?_⟩
        rw [nI_1]
        refine (ih (i + 1) k e2 s3 m E (by omega) (by omega) hk (by omega) P5 e1 t1 t2).mono fun q ⟨a7, o7⟩ => ?_
        have gg : ag (pCl k) D E := ((pCs_l a4).trans (pCl_up a6)).trans (pOv_l (by omega) e3)
        have fin : ∀ (E0 : zD) (m' : Nat) (Q : zD → Prop), rQ n B e v k W h s E0 → (∀ F, rQ n B e2 v k W h s3 F → agL (pRl k) E0 F → zok (fn_X12_ands_4 fR m' F) Q) → zok (fn_X12_ands_4 fR (m' + 1) E0) Q := by
          intro E0 m' Q hE0 hQ
          refine ref E0 m' (fun F => rQ n B e v k W h s E0 ∧ agL (pRl (k + 1)) E0 F ∧ rdS n B e2 F ∧ gI F 102 8 = nI v ∧ gI F 102 27 = nI (k + 2) ∧ rV (k + 1) s2 F) Q hE0 (fun G g1 g2 => (y7 G g1).mono fun F ⟨f1, f2, f3, f4, f5⟩ => ⟨hE0, (pRd_rl g2).trans f1, f2, f3, f4, f5⟩) fun _ G _ ⟨_, f1, f2, f3, f4, f5⟩ => ?_
          rw [f2.2.2.2.1, if_pos rfl]
          have fl : gI G 102 33 = gI q6.2 22 6 := fl_eq y3 f5
          refine (r_clearMade (D := G) (by rcases rV_fl f5 with q | q; exact Or.inl q.1; exact Or.inr q.1)).bind fun H ⟨h1, h2⟩ => ?_
          rw [cl0_z fl] at h1
          obtain ⟨l1, b1, b2, b3⟩ := rV_cnt hE0.2.2.2.2.2
          obtain ⟨l2, c1, c2, c3⟩ := rV_cnt f5
          have L1 : rL k l1 H := ⟨by rw [h2.1 _ _ (by unfold pMk; omega), f1.1 _ _ (by unfold pRl; omega)]; exact b2.1, fun i hi => by rw [h2.1 _ _ (by unfold pMk; omega), f1.1 _ _ (by unfold pRl; omega)]; exact b2.2 i hi⟩
          have L2 : rL (k + 1) l2 H := ⟨by rw [h2.1 _ _ (by unfold pMk; omega)]; exact c2.1, fun i hi => by rw [h2.1 _ _ (by unfold pMk; omega)]; exact c2.2 i hi⟩
          have h27 : gI H 102 27 = nI (k + 2) := by rw [h2.1 _ _ (by unfold pMk; omega), f4]
          skip
          refine r_andT (by omega) h27 L1 b1 L2 c1 h1 fun F g1 g2 g3 => ?_
          rw [t4 l1 l2 b3 c3] at g1
          have k8 : ∀ b, b ≠ 27 → b ≠ 32 → b ≠ 33 → gI F 102 b = gI G 102 b := fun b q1 q2 q3 => by rw [g3.1 _ _ (by unfold pNd; omega), h2.1 _ _ (by unfold pMk; omega)]
          refine hQ F ⟨(f2.mk h2).keep fun a b r => g3.1 _ _ (by unfold pNd; omega), by rw [k8 _ (by omega) (by omega) (by omega), f3], g2, by rw [k8 _ (by omega) (by omega) (by omega), f1.1 _ _ (by unfold pRl; omega), hE0.2.2.2.1], by rw [k8 _ (by omega) (by omega) (by omega), f1.1 _ _ (by unfold pRl; omega), hE0.2.2.2.2.1], g1⟩ (((pRl_up f1).trans (pPl_rl (pMk_l h2))).trans (pNd_rl (by omega) g3))
        rcases o7 with ⟨x7, f, z1, z2⟩ | ⟨x7, e', s', z1, z2, z3, z4, z5, z6, z7⟩
        · refine ⟨gg.trans a7, Or.inl ⟨x7, f, z1, fun E0 m' hm' hE0 => ?_⟩⟩
          obtain ⟨m', rfl⟩ : ∃ x, m' = x + 1 := ⟨m' - 1, by omega⟩
          exact fin E0 m' _ hE0 fun F f1 f2 => (z2 F m' (by omega) f1).mono fun G ⟨g1, g2⟩ => ⟨f2.trans g1, g2⟩
        · refine ⟨gg.trans a7, Or.inr ⟨x7, e', s', by omega, z2, z3, z4, z5, fun h1 => ?_, fun E0 m' hm' hE0 => ?_⟩⟩
          · refine z6 ?_
            rcases cV_fl e1 with q | q
            · have := t3 (by rw [fl4]; exact h1)
              exact absurd this q.2
            · exact q.1
          · obtain ⟨m', rfl⟩ : ∃ x, m' = x + 1 := ⟨m' - 1, by omega⟩
            exact fin E0 m' _ hE0 fun F f1 f2 => (z7 F m' (by omega) f1).mono fun G ⟨g1, g2⟩ => ⟨f2.trans g1, g2⟩
        · rw [e3 _ _ (by unfold pOv; omega), a6 _ _ (by unfold pCl; omega), a4 _ _ (by unfold pCs; omega)]; exact hP.2.2.2.1
        · rw [e3 _ _ (by unfold pOv; omega), a6 _ _ (by unfold pCl; omega), a4 _ _ (by unfold pCs; omega)]; exact hP.2.2.2.2.1
        · rcases cV_fl e1 with q | q
          · exact Or.inl q.1
          · exact Or.inr q.1
    · rw [x4, if_pos rfl, zok_some]
      refine ⟨pCs_l a4, Or.inr ⟨rfl, sk n B e, s, hsk.1, d4, cV_cs hV (by omega) a4, ho, hn, hfl, fun E m' hm' hE => ?_⟩⟩
      obtain ⟨m', rfl⟩ : ∃ x, m' = x + 1 := ⟨m' - 1, by omega⟩
      show zok (fn_X12_ands_4 fR (m' + 1) E) _
      rw [fn_X12_ands_4]
      refine (r_eats (j := 6) (by omega) rfl hE.1).bind fun q ⟨a1, o⟩ => ?_
      rcases o with ⟨y, _⟩ | ⟨_, x, d1⟩
      · exact absurd y w
      · rw [x, if_pos rfl, zok_some]
        exact ⟨pRd_rl a1, d1, by rw [a1.1 _ _ (by unfold pRd; omega), hE.2.1], by rw [a1.1 _ _ (by unfold pRd; omega), hE.2.2.1], rV_rd hE.2.2.2.2.2 a1⟩
theorem SG_and {fC : Int32 → Int32 → zD → Option (Int32 × zD)} {fR : zD → Option zD} {kb : Nat} (hS : SG n B W h v (kb + 1) fC fR) (hkb : kb ≤ 13) : SG n B W h v kb (fn_X7_both fC) (fn_X12_ands fR) := by
  intro k p D hk hP
  have hb := hP.2.1
  unfold fn_X7_both
  refine (hS k p D (by omega) hP).bind fun q ⟨a1, o⟩ => ?_
  rcases o with ⟨x1, f, y1, y2⟩ | ⟨x1, e, s, y1, y2, y3, y4, y5, y6, y7⟩
  · rw [x1, if_pos rfl, zok_some]
    refine ⟨a1, Or.inl ⟨rfl, f, y1, fun E hE => ?_⟩⟩
    unfold fn_X12_ands
    refine (y2 E hE).bind fun F ⟨f1, f2⟩ => ?_
    show zok (fn_X12_ands_4 fR (4294967295 + 1) F) _
    rw [fn_X12_ands_4, r_eatsF f2, Option.bind_some, if_pos rfl, zok_some]
    exact ⟨f1, f2⟩
  · rw [x1, if_neg (show ¬ (1 : Int32) = 0 by decide)]
    have P1 : cP n B e W h k q.2 := ⟨y2, hb, hP.2.2.1, by rw [a1 _ _ (by unfold pCl; omega)]; exact hP.2.2.2.1, by rw [a1 _ _ (by unfold pCl; omega)]; exact hP.2.2.2.2.1, by
      rcases cV_fl y3 with q | q
      · exact Or.inl q.1
      · exact Or.inr q.1⟩
    refine (lp_and hS hkb 500 0 k e s zFU q.2 (by omega) (zfu_gt (by omega)) hk (Nat.zero_le _) P1 y3 y4 y5).mono fun r ⟨a2, o2⟩ => ?_
    have go : ∀ (E : zD) (Q : zD → Prop), rR n B p v k W h (gI D 22 6) E → (∀ F, rQ n B e v k W h s F → agL (pRl k) E F → zok (fn_X12_ands_4 fR zFU F) Q) → zok (fn_X12_ands fR E) Q := by
      intro E Q hE hQ
      unfold fn_X12_ands
      refine (y7 E hE).bind fun F ⟨f1, f2, f3, f4, f5⟩ => hQ F ⟨f2, f3, f4, by rw [f1.1 _ _ (by unfold pRl; omega), hE.2.2.2.1], by rw [f1.1 _ _ (by unfold pRl; omega), hE.2.2.2.2.1], f5⟩ f1
    rcases o2 with ⟨x2, f, z1, z2⟩ | ⟨x2, e', s', z1, z2, z3, z4, z5, z6, z7⟩
    · exact ⟨a1.trans a2, Or.inl ⟨x2, f, z1, fun E hE => go E _ hE fun F f1 f2 => (z2 F zFU (zfu_gt (by omega)) f1).mono fun G ⟨g1, g2⟩ => ⟨f2.trans g1, g2⟩⟩⟩
    · refine ⟨a1.trans a2, Or.inr ⟨x2, e', s', by omega, z2, z3, z4, z5, fun h1 => z6 ?_, fun E hE => go E _ hE fun F f1 f2 => (z7 F zFU (zfu_gt (by omega)) f1).mono fun G ⟨g1, g2⟩ => ⟨f2.trans g1, g2⟩⟩⟩
      rcases cV_fl y3 with t | t
      · exact absurd (y6 h1) t.2
      · exact t.1
theorem RF_and {fR : zD → Option zD} (hF : ∀ (f : Nat × Nat) (E : zD), rdF f E → fR E = some E) : ∀ (f : Nat × Nat) (E : zD), rdF f E → fn_X12_ands fR E = some E := by
  intro f E k
  unfold fn_X12_ands
  rw [hF f E k, Option.bind_some]
  show fn_X12_ands_4 fR (4294967295 + 1) E = _
  rw [fn_X12_ands_4, r_eatsF k, Option.bind_some, if_pos rfl]
/-- what joins two levels -/
theorem c_join_or {s s2 : Option (List Int32)} {D0 : zD} (hk : k ≤ 13) (h30 : W * h ≤ 30) (hV : cV (27 + 2 * k) s D0) (g : ag (pCl (k + 1)) D0 D) (hV2 : cV (27 + 2 * (k + 1)) s2 D) (o1 : okc (W * h) s) (o2 : okc (W * h) s2) (n1 : nes s) (n2 : nes s2) (st : gI D0 22 6 = 1 → s2 = none) :
    ∃ s3, okc (W * h) s3 ∧ nes s3 ∧ (gI D0 22 6 = 1 → s3 = none) ∧ (∀ l1 l2, (∀ m, s = some m → m = l1) → (∀ m, s2 = some m → m = l2) → ful l2 (ful l1 (zst (gI D 22 6))) = s3) ∧ zok (fn_X7_unite (27 + 2 * k) (27 + 2 * (k + 1)) D) fun E => cV (27 + 2 * k) s3 E ∧ ag (pOv (27 + 2 * k)) D E := by
  obtain ⟨l1, a1, a2, a3⟩ := cV_cnt hV
  obtain ⟨l2, b1, b2, b3⟩ := cV_cnt hV2
  have a2' : cL (27 + 2 * k) l1 D := ⟨by rw [g _ _ (by unfold pCl; omega)]; exact a2.1, fun i hi => by rw [g _ _ (by unfold pCl; omega)]; exact a2.2 i hi⟩
  rcases cV_fl hV2 with ⟨x, y⟩ | ⟨x, y⟩
  · have f0 : gI D0 22 6 = 0 ∧ s ≠ none := by
      rcases cV_fl hV with q | q
      · exact q
      · exact absurd (st q.1) y
    obtain ⟨m1, e1⟩ := Option.ne_none_iff_exists'.mp f0.2
    obtain ⟨m2, e2⟩ := Option.ne_none_iff_exists'.mp y
    have := a3 m1 e1
    subst this
    have := b3 m2 e2
    subst this
    refine ⟨ful m2 (ful m1 (some [])), okc_ful (o2 m2 e2) (okc_ful (o1 m1 e1) okc_nil), nes_ful (n2 m2 e2), fun q => by rw [f0.1] at q; exact absurd q (by decide), fun l1 l2 q1 q2 => by
      have := q1 m1 e1
      subst this
      have := q2 m2 e2
      subst this
      unfold zst
      rw [if_pos x], c_unite (by omega) (by omega) a2' b2 (o1 m1 e1) (o2 m2 e2) h30 x⟩
  · refine ⟨none, fun l hl => (by cases hl), fun l hl => (by cases hl), fun _ => rfl, fun l1 l2 _ _ => by
      unfold zst
      rw [if_neg (by rw [x]; decide)]
      exact (by rw [ful_none, ful_none]), ?_⟩
    rw [(c_skips x).1, zok_some]
    exact ⟨⟨x, l1.length, a1, a2'.1⟩, ag.refl⟩
theorem lp_or {fC : Int32 → Int32 → zD → Option (Int32 × zD)} {fR : zD → Option zD} {kb : Nat} (hS : SG n B W h v (kb + 1) fC fR) (hkb : kb ≤ 13) : ∀ (j i k e : Nat) (s : Option (List Int32)) (m : Nat) (D : zD), i + j = 500 → j < m → k ≤ kb → i ≤ e → cP n B e W h k D → cV (27 + 2 * k) s D → okc (W * h) s → nes s → zok (fn_X7_choice_13 fC (nI v) (nI k) m (nI i) D) (lpq n B e W h v k j s (fun m E => fn_X12_ors_4 fR m E) D) := by
  intro j
  induction j with
  | zero =>
    intro i k e s m D hij hm hk hie hP hV ho hn
    obtain ⟨m, rfl⟩ : ∃ x, m = x + 1 := ⟨m - 1, by omega⟩
    have h500 := hP.1.1.1
    have hen := hP.1.2.1
    have en : e = n := by omega
    rw [fn_X7_choice_13, show i = 500 by omega, if_pos (show (500 : Int32) ≤ nI 500 by decide), zok_some]
    refine ⟨ag.refl, Or.inr ⟨rfl, e, s, Nat.le_refl _, hP.1, hV, ho, hn, fun h1 => ?_, fun E m hm hE => ?_⟩⟩
    · rcases cV_fl hV with q | q
      · rw [q.1] at h1; exact absurd h1 (by decide)
      · exact q.2
    · obtain ⟨m, rfl⟩ : ∃ x, m = x + 1 := ⟨m - 1, by omega⟩
      show zok (fn_X12_ors_4 fR (m + 1) E) _
      rw [fn_X12_ors_4]
      refine (r_eats (j := 7) (by omega) rfl hE.1).bind fun q ⟨a1, o⟩ => ?_
      have hsk := sk_le (B := B) hen
      rw [show sk n B e = n by omega] at o
      rcases o with ⟨w, _⟩ | ⟨_, x, d1⟩
      · exact absurd w (wd_end (by decide))
      · rw [x, if_pos rfl, zok_some]
        refine ⟨pRd_rl a1, by rw [en]; exact d1, by rw [a1.1 _ _ (by unfold pRd; omega), hE.2.1], by rw [a1.1 _ _ (by unfold pRd; omega), hE.2.2.1], ?_⟩
        exact rV_rd hE.2.2.2.2.2 a1
  | succ j ih =>
    intro i k e s m D hij hm hk hie hP hV ho hn
    obtain ⟨m, rfl⟩ : ∃ x, m = x + 1 := ⟨m - 1, by omega⟩
    have hb := hP.2.1
    have h30 := wh_le (w := W) (h := h) (by omega) (by omega)
    have hen := hP.1.2.1
    have hsk := sk_le (B := B) hen
    have hfl : gI D 22 6 = 1 → s = none := fun h1 => by
      rcases cV_fl hV with q | q
      · rw [q.1] at h1; exact absurd h1 (by decide)
      · exact q.2
    rw [fn_X7_choice_13, if_neg (show ¬ (500 : Int32) ≤ nI i from nI_ge (a := i) (b := 500) (by omega) (by omega))]
    refine (c_word2 (j := 7) (by omega) hP.1).bind fun q4 ⟨a4, o⟩ => ?_
    rcases o with ⟨w, x4, d4⟩ | ⟨w, x4, d4⟩
    · rw [x4, if_neg (show ¬ (1 : Int32) = 0 by decide), nI_1]
      have hV4 : cV (27 + 2 * k) s q4.2 := cV_cs hV (by omega) a4
      have fl4 : gI q4.2 22 6 = gI D 22 6 := a4 _ _ (by unfold pCs; omega)
      have P4 : cP n B (sk n B e + (bw 7).length) W h (k + 1) q4.2 := ⟨d4, hb, by omega, by rw [a4 _ _ (by unfold pCs; omega)]; exact hP.2.2.2.1, by rw [a4 _ _ (by unfold pCs; omega)]; exact hP.2.2.2.2.1, by rw [fl4]; exact hP.2.2.2.2.2⟩
      have lw : 1 ≤ (bw 7).length := by decide
      -- the reference as far as the second rule
      have ref : ∀ (E : zD) (m' : Nat) (Q1 Q : zD → Prop), rQ n B e v k W h s E → (∀ G, rR n B (sk n B e + (bw 7).length) v (k + 1) W h (gI q4.2 22 6) G → agL pRd E G → zok (fR G) Q1) → (∀ G1 G, agL pRd E G1 → Q1 G → zok (if (gI G 102 5) = 0 then ((fn_X12_clearMade G).bind fun D6 => (zlet ((gI D6 102 27) - (2 : Int32)) fun x7 => (fn_X12_ors_39 fR (fn_X12_ors_4 fR m') zFU x7 D6))) else ((some G))) Q) → zok (fn_X12_ors_4 fR (m' + 1) E) Q := by
        intro E m' Q1 Q hE k1 k2
        rw [fn_X12_ors_4]
        refine (r_eats (j := 7) (by omega) rfl hE.1).bind fun r ⟨g1, o⟩ => ?_
        rcases o with ⟨_, y, d⟩ | ⟨y, _⟩
        · rw [y, if_neg (show ¬ (1 : Int32) = 0 by decide)]
          exact (k1 r.2 ⟨d, by rw [g1.1 _ _ (by unfold pRd; omega), hE.2.1], by rw [g1.1 _ _ (by unfold pRd; omega), hE.2.2.1], by rw [g1.1 _ _ (by unfold pRd; omega), hE.2.2.2.1], by rw [g1.1 _ _ (by unfold pRd; omega), hE.2.2.2.2.1], by rw [g1.1 _ _ (by unfold pRd; omega), fl4, fl_eq hV hE.2.2.2.2.2]⟩ g1).bind fun G hG => k2 r.2 G g1 hG
        · exact absurd w y
      refine (hS (k + 1) _ q4.2 (by omega) P4).bind fun q6 ⟨a6, o6⟩ => ?_
      rcases o6 with ⟨x6, f, y1, y2⟩ | ⟨x6, e2, s2, y1, y2, y3, y4, y5, y6, y7⟩
      · rw [x6, if_pos rfl, zok_some]
        refine ⟨(pCs_l a4).trans (pCl_up a6), Or.inl ⟨rfl, f, y1, fun E m' hm' hE => ?_⟩⟩
        obtain ⟨m', rfl⟩ : ∃ x, m' = x + 1 := ⟨m' - 1, by omega⟩
        refine ref E m' (fun F => agL (pRl k) E F ∧ rdF f F) _ hE (fun G g1 g2 => (y2 G g1).mono fun F ⟨f1, f2⟩ => ⟨(pRd_rl g2).trans (pRl_up f1), f2⟩) fun _ G _ ⟨g1, g2⟩ => ?_
        rw [if_neg (rdF_ne g2), zok_some]
        exact ⟨g1, g2⟩
      · rw [x6, if_neg (show ¬ (1 : Int32) = 0 by decide), c_at7 (by omega), Option.bind_some, c_at7 (by omega), Option.bind_some]
        obtain ⟨s3, t1, t2, t3, t4, t5⟩ := c_join_or (k := k) (W := W) (h := h) (D := q6.2) (by omega) h30 hV4 a6 y3 ho y4 hn y5 y6
        refine t5.bind fun E ⟨e1, e3⟩ => ?_
        have P5 : cP n B e2 W h k E := ⟨y2.keep fun a b r => e3 _ _ (by unfold pOv; omega), hb, by omega, ?_, ?_, ?_⟩
        rw [nI_1]
        refine (ih (i + 1) k e2 s3 m E (by omega) (by omega) hk (by omega) P5 e1 t1 t2).mono fun q ⟨a7, o7⟩ => ?_
        have gg : ag (pCl k) D E := ((pCs_l a4).trans (pCl_up a6)).trans (pOv_l (by omega) e3)
        have fin : ∀ (E0 : zD) (m' : Nat) (Q : zD → Prop), rQ n B e v k W h s E0 → (∀ F, rQ n B e2 v k W h s3 F → agL (pRl k) E0 F → zok (fn_X12_ors_4 fR m' F) Q) → zok (fn_X12_ors_4 fR (m' + 1) E0) Q := by
          intro E0 m' Q hE0 hQ
          refine ref E0 m' (fun F => rQ n B e v k W h s E0 ∧ agL (pRl (k + 1)) E0 F ∧ rdS n B e2 F ∧ gI F 102 8 = nI v ∧ gI F 102 27 = nI (k + 2) ∧ rV (k + 1) s2 F) Q hE0 (fun G g1 g2 => (y7 G g1).mono fun F ⟨f1, f2, f3, f4, f5⟩ => ⟨hE0, (pRd_rl g2).trans f1, f2, f3, f4, f5⟩) fun _ G _ ⟨_, f1, f2, f3, f4, f5⟩ => ?_
          rw [f2.2.2.2.1, if_pos rfl]
          have fl : gI G 102 33 = gI q6.2 22 6 := fl_eq y3 f5
          refine (r_clearMade (D := G) (by rcases rV_fl f5 with q | q; exact Or.inl q.1; exact Or.inr q.1)).bind fun H ⟨h1, h2⟩ => ?_
          rw [cl0_z fl] at h1
          obtain ⟨l1, b1, b2, b3⟩ := rV_cnt hE0.2.2.2.2.2
          obtain ⟨l2, c1, c2, c3⟩ := rV_cnt f5
          have L1 : rL k l1 H := ⟨by rw [h2.1 _ _ (by unfold pMk; omega), f1.1 _ _ (by unfold pRl; omega)]; exact b2.1, fun i hi => by rw [h2.1 _ _ (by unfold pMk; omega), f1.1 _ _ (by unfold pRl; omega)]; exact b2.2 i hi⟩
          have L2 : rL (k + 1) l2 H := ⟨by rw [h2.1 _ _ (by unfold pMk; omega)]; exact c2.1, fun i hi => by rw [h2.1 _ _ (by unfold pMk; omega)]; exact c2.2 i hi⟩
          have h27 : gI H 102 27 = nI (k + 2) := by rw [h2.1 _ _ (by unfold pMk; omega), f4]
          rw [h27, nI_m2, zlet_eq]
          refine r_orT (by omega) h27 L1 b1 L2 c1 h1 fun F g1 g2 g3 => ?_
          rw [t4 l1 l2 b3 c3] at g1
          have k8 : ∀ b, b ≠ 27 → b ≠ 32 → b ≠ 33 → gI F 102 b = gI G 102 b := fun b q1 q2 q3 => by rw [g3.1 _ _ (by unfold pNd; omega), h2.1 _ _ (by unfold pMk; omega)]
          refine hQ F ⟨(f2.mk h2).keep fun a b r => g3.1 _ _ (by unfold pNd; omega), by rw [k8 _ (by omega) (by omega) (by omega), f3], g2, by rw [k8 _ (by omega) (by omega) (by omega), f1.1 _ _ (by unfold pRl; omega), hE0.2.2.2.1], by rw [k8 _ (by omega) (by omega) (by omega), f1.1 _ _ (by unfold pRl; omega), hE0.2.2.2.2.1], g1⟩ (((pRl_up f1).trans (pPl_rl (pMk_l h2))).trans (pNd_rl (by omega) g3))
        rcases o7 with ⟨x7, f, z1, z2⟩ | ⟨x7, e', s', z1, z2, z3, z4, z5, z6, z7⟩
        · refine ⟨gg.trans a7, Or.inl ⟨x7, f, z1, fun E0 m' hm' hE0 => ?_⟩⟩
          obtain ⟨m', rfl⟩ : ∃ x, m' = x + 1 := ⟨m' - 1, by omega⟩
          exact fin E0 m' _ hE0 fun F f1 f2 => (z2 F m' (by omega) f1).mono fun G ⟨g1, g2⟩ => ⟨f2.trans g1, g2⟩
        · refine ⟨gg.trans a7, Or.inr ⟨x7, e', s', by omega, z2, z3, z4, z5, fun h1 => ?_, fun E0 m' hm' hE0 => ?_⟩⟩
          · refine z6 ?_
            rcases cV_fl e1 with q | q
            · have := t3 (by rw [fl4]; exact h1)
              exact absurd this q.2
            · exact q.1
          · obtain ⟨m', rfl⟩ : ∃ x, m' = x + 1 := ⟨m' - 1, by omega⟩
            exact fin E0 m' _ hE0 fun F f1 f2 => (z7 F m' (by omega) f1).mono fun G ⟨g1, g2⟩ => ⟨f2.trans g1, g2⟩
        · rw [e3 _ _ (by unfold pOv; omega), a6 _ _ (by unfold pCl; omega), a4 _ _ (by unfold pCs; omega)]; exact hP.2.2.2.1
        · rw [e3 _ _ (by unfold pOv; omega), a6 _ _ (by unfold pCl; omega), a4 _ _ (by unfold pCs; omega)]; exact hP.2.2.2.2.1
        · rcases cV_fl e1 with q | q
          · exact Or.inl q.1
          · exact Or.inr q.1
    · rw [x4, if_pos rfl, zok_some]
      refine ⟨pCs_l a4, Or.inr ⟨rfl, sk n B e, s, hsk.1, d4, cV_cs hV (by omega) a4, ho, hn, hfl, fun E m' hm' hE => ?_⟩⟩
      obtain ⟨m', rfl⟩ : ∃ x, m' = x + 1 := ⟨m' - 1, by omega⟩
      show zok (fn_X12_ors_4 fR (m' + 1) E) _
      rw [fn_X12_ors_4]
      refine (r_eats (j := 7) (by omega) rfl hE.1).bind fun q ⟨a1, o⟩ => ?_
      rcases o with ⟨y, _⟩ | ⟨_, x, d1⟩
      · exact absurd y w
      · rw [x, if_pos rfl, zok_some]
        exact ⟨pRd_rl a1, d1, by rw [a1.1 _ _ (by unfold pRd; omega), hE.2.1], by rw [a1.1 _ _ (by unfold pRd; omega), hE.2.2.1], rV_rd hE.2.2.2.2.2 a1⟩
theorem SG_or {fC : Int32 → Int32 → zD → Option (Int32 × zD)} {fR : zD → Option zD} {kb : Nat} (hS : SG n B W h v (kb + 1) fC fR) (hkb : kb ≤ 13) : SG n B W h v kb (fn_X7_choice fC) (fn_X12_ors fR) := by
  intro k p D hk hP
  have hb := hP.2.1
  unfold fn_X7_choice
  refine (hS k p D (by omega) hP).bind fun q ⟨a1, o⟩ => ?_
  rcases o with ⟨x1, f, y1, y2⟩ | ⟨x1, e, s, y1, y2, y3, y4, y5, y6, y7⟩
  · rw [x1, if_pos rfl, zok_some]
    refine ⟨a1, Or.inl ⟨rfl, f, y1, fun E hE => ?_⟩⟩
    unfold fn_X12_ors
    refine (y2 E hE).bind fun F ⟨f1, f2⟩ => ?_
    show zok (fn_X12_ors_4 fR (4294967295 + 1) F) _
    rw [fn_X12_ors_4, r_eatsF f2, Option.bind_some, if_pos rfl, zok_some]
    exact ⟨f1, f2⟩
  · rw [x1, if_neg (show ¬ (1 : Int32) = 0 by decide)]
    have P1 : cP n B e W h k q.2 := ⟨y2, hb, hP.2.2.1, by rw [a1 _ _ (by unfold pCl; omega)]; exact hP.2.2.2.1, by rw [a1 _ _ (by unfold pCl; omega)]; exact hP.2.2.2.2.1, by
      rcases cV_fl y3 with q | q
      · exact Or.inl q.1
      · exact Or.inr q.1⟩
    refine (lp_or hS hkb 500 0 k e s zFU q.2 (by omega) (zfu_gt (by omega)) hk (Nat.zero_le _) P1 y3 y4 y5).mono fun r ⟨a2, o2⟩ => ?_
    have go : ∀ (E : zD) (Q : zD → Prop), rR n B p v k W h (gI D 22 6) E → (∀ F, rQ n B e v k W h s F → agL (pRl k) E F → zok (fn_X12_ors_4 fR zFU F) Q) → zok (fn_X12_ors fR E) Q := by
      intro E Q hE hQ
      unfold fn_X12_ors
      refine (y7 E hE).bind fun F ⟨f1, f2, f3, f4, f5⟩ => hQ F ⟨f2, f3, f4, by rw [f1.1 _ _ (by unfold pRl; omega), hE.2.2.2.1], by rw [f1.1 _ _ (by unfold pRl; omega), hE.2.2.2.2.1], f5⟩ f1
    rcases o2 with ⟨x2, f, z1, z2⟩ | ⟨x2, e', s', z1, z2, z3, z4, z5, z6, z7⟩
    · exact ⟨a1.trans a2, Or.inl ⟨x2, f, z1, fun E hE => go E _ hE fun F f1 f2 => (z2 F zFU (zfu_gt (by omega)) f1).mono fun G ⟨g1, g2⟩ => ⟨f2.trans g1, g2⟩⟩⟩
    · refine ⟨a1.trans a2, Or.inr ⟨x2, e', s', by omega, z2, z3, z4, z5, fun h1 => z6 ?_, fun E hE => go E _ hE fun F f1 f2 => (z7 F zFU (zfu_gt (by omega)) f1).mono fun G ⟨g1, g2⟩ => ⟨f2.trans g1, g2⟩⟩⟩
      rcases cV_fl y3 with t | t
      · exact absurd (y6 h1) t.2
      · exact t.1
theorem RF_or {fR : zD → Option zD} (hF : ∀ (f : Nat × Nat) (E : zD), rdF f E → fR E = some E) : ∀ (f : Nat × Nat) (E : zD), rdF f E → fn_X12_ors fR E = some E := by
  intro f E k
  unfold fn_X12_ors
  rw [hF f E k, Option.bind_some]
  show fn_X12_ors_4 fR (4294967295 + 1) E = _
  rw [fn_X12_ors_4, r_eatsF k, Option.bind_some, if_pos rfl]
end M9zc
