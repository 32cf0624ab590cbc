/-! THE MATHEMATICS: the reference's changed cells -/
def pF (a b : Nat) : Prop := (a < 183 ∨ 195 < a) ∧ ¬ (a = 102 ∧ (b = 48 ∨ b = 49))
section M76
variable {D : zD} {P : Nat → Nat} {nc c ns d w k : Nat} {cv : Nat → Int32}
theorem r_couldBe {f : Nat → Nat → Bool} (h16 : gI D 102 16 = nI ns) (hn : ns ≤ 12) (hf : ∀ i j, i < ns → j < ns → gI D (183 + i) j = bI (f i j)) {s o : Nat} (hs : s < ns) (ho : o < ns) : ∃ r, fn_X12_couldBe (nI s) (nI o) D = some r ∧ (r = 0 → 0 < prs ns (cut (cut f s) o)) := by
  have main : zok (fn_X12_couldBe (nI s) (nI o) D) fun r => (r = 0 → 0 < prs ns (cut (cut f s) o)) := by
    refine z_inv ns (fun n a (_ : Unit) => fn_X12_couldBe_2 (nI s) (nI o) D n (nI a)) (fun _ _ => True) _ ?_ ?_ 0 zFU () (Nat.zero_le _) (zfu_gt (by omega)) trivial
    · intro n a _ ha _ ih
      show zok (fn_X12_couldBe_2 (nI s) (nI o) D (n + 1) (nI a)) _
      rw [fn_X12_couldBe_2, h16, if_neg (nI_ge ha (by omega))]
      refine z_inv a (fun m b (_ : Unit) => fn_X12_couldBe_13 (nI s) (nI o) D (fn_X12_couldBe_2 (nI s) (nI o) D n) m (nI a) (nI b)) (fun _ _ => True) _ ?_ ?_ 0 zFU () (Nat.zero_le _) (zfu_gt (by omega)) trivial
      · intro m b _ hb _ ih2
        show zok (fn_X12_couldBe_13 (nI s) (nI o) D (fn_X12_couldBe_2 (nI s) (nI o) D n) (m + 1) (nI a) (nI b)) _
        have h2 := hf a b ha (by omega)
        have e1 := nI_eq (a := a) (b := s) (by omega) (by omega)
        have e2 := nI_eq (a := b) (b := s) (by omega) (by omega)
        have e3 := nI_eq (a := a) (b := o) (by omega) (by omega)
        have e4 := nI_eq (a := b) (b := o) (by omega) (by omega)
        rw [fn_X12_couldBe_13, if_neg (nI_ge hb (by omega)), zck_nI (by omega) (by omega), zck_nI (by omega) (by omega), nI_clamp (by omega), nI_clamp (by omega), h2, nI_1]
        cases hB : f a b
        · rw [if_pos (show bI false = 0 from rfl)]
          exact ih2 () trivial
        · rw [if_neg (show ¬ bI true = 0 by decide)]
          by_cases q1 : a = s
          · rw [if_pos (e1.mpr q1)]; exact ih2 () trivial
          · rw [if_neg (fun r => q1 (e1.mp r))]
            by_cases q2 : b = s
            · rw [if_pos (e2.mpr q2)]; exact ih2 () trivial
            · rw [if_neg (fun r => q2 (e2.mp r))]
              by_cases q3 : a = o
              · rw [if_pos (e3.mpr q3)]; exact ih2 () trivial
              · rw [if_neg (fun r => q3 (e3.mp r))]
                by_cases q4 : b = o
                · rw [if_pos (e4.mpr q4)]; exact ih2 () trivial
                · rw [if_neg (fun r => q4 (e4.mp r)), zok_some]
                  intro _
                  apply Nat.pos_of_ne_zero
                  intro hz
                  have := prs_zero.mp hz a b ha hb
                  unfold cut at this
                  rw [hB, decide_eq_true ⟨q1, q2⟩, decide_eq_true ⟨q3, q4⟩] at this
                  cases this
      · intro m _ _
        show zok (fn_X12_couldBe_13 (nI s) (nI o) D (fn_X12_couldBe_2 (nI s) (nI o) D n) (m + 1) (nI a) (nI a)) _
        rw [fn_X12_couldBe_13, if_pos (nI_le (Nat.le_refl _) (by omega)), nI_1]
        exact ih () trivial
    · intro n _ _
      show zok (fn_X12_couldBe_2 (nI s) (nI o) D (n + 1) (nI ns)) _
      rw [fn_X12_couldBe_2, h16, if_pos (nI_le (Nat.le_refl _) (by omega)), zok_some]
      intro r
      cases r
  obtain ⟨r, r1, r2⟩ := main
  exact ⟨r, r1, r2⟩
theorem r_isClear {pt : Nat → Int32} (hc : rcv ns nc d cv D) (hp : ∀ s, s < ns → gI D 195 s = pt s) : ∃ r, fn_X12_isClear D = some r ∧ ((r = 0 ∧ ¬ clr ns nc cv (2 * d) pt) ∨ (r = 1 ∧ clr ns nc cv (2 * d) pt)) := by
  obtain ⟨⟨hn, hnc, hd50⟩, h16, h26, h34, h128⟩ := hc
  have main : zok (fn_X12_isClear D) fun r => ((r = 0 ∧ ¬ clr ns nc cv (2 * d) pt) ∨ (r = 1 ∧ clr ns nc cv (2 * d) pt)) := by
    refine z_inv ns (fun n a (_ : Unit) => fn_X12_isClear_2 D n (nI a)) (fun a _ => ∀ i j, i < a → j < i → cfp nc cv (2 * d) pt i j = false) _ ?_ ?_ 0 zFU () (Nat.zero_le _) (zfu_gt (by omega)) (fun i j h => by omega)
    · intro n a _ ha hI ih
      show zok (fn_X12_isClear_2 D (n + 1) (nI a)) _
      rw [fn_X12_isClear_2, h16, if_neg (nI_ge ha (by omega))]
      refine z_inv a (fun m b (_ : Unit) => fn_X12_isClear_12 D (fn_X12_isClear_2 D n) m (nI a) (nI b)) (fun b _ => ∀ j, j < b → cfp nc cv (2 * d) pt a j = false) _ ?_ ?_ 0 zFU () (Nat.zero_le _) (zfu_gt (by omega)) (fun j h => by omega)
      · intro m b _ hb hJ ih2
        show zok (fn_X12_isClear_12 D (fn_X12_isClear_2 D n) (m + 1) (nI a) (nI b)) _
        have hcf := sFi_cfx (nc := nc) (cv := cv) (e := 2 * d) (x := pt a ^^^ pt b) hnc
        rw [fn_X12_isClear_12, if_neg (nI_ge hb (by omega)), zck_nI (by omega) (by omega), zck_nI (by omega) (by omega), nI_clamp (by omega), nI_clamp (by omega), hp a ha, hp b (by omega), r_first h26 hnc _ _ hd50 h34, Option.bind_some, h128, nI_1]
        by_cases g : sFi nc cv (2 * d) (pt a ^^^ pt b) = -1
        · rw [if_pos g]
          refine ih2 () fun j hj => ?_
          by_cases q : j = b
          · subst q; exact hcf.1.mp g
          · exact hJ j (by omega)
        · rw [if_neg g, zok_some]
          refine Or.inl ⟨rfl, fun hcl => ?_⟩
          have h1 := hcl a b ha (by omega) (by omega)
          have h2 := hcf.2.mp g
          unfold cfp at h1
          rw [h2] at h1
          cases h1
      · intro m _ hJ
        show zok (fn_X12_isClear_12 D (fn_X12_isClear_2 D n) (m + 1) (nI a) (nI a)) _
        rw [fn_X12_isClear_12, if_pos (nI_le (Nat.le_refl _) (by omega)), nI_1]
        refine ih () fun i j hi hj => ?_
        by_cases q : i = a
        · subst q; exact hJ j hj
        · exact hI i j (by omega) hj
    · intro n _ hI
      show zok (fn_X12_isClear_2 D (n + 1) (nI ns)) _
      rw [fn_X12_isClear_2, h16, if_pos (nI_le (Nat.le_refl _) (by omega)), zok_some]
      refine Or.inr ⟨rfl, ?_⟩
      rw [clr_prA]
      exact prs_zero.mpr hI
  obtain ⟨r, r1, r2⟩ := main
  exact ⟨r, r1, r2⟩
/-- the places, told -/
def conv (c : Nat) (x : Int32) : Int32 := if x = -1 then -1 else 100 * (x / nI c) + (x - x / nI c * nI c)
theorem conv_n {x : Nat} (hx : x < 1000) (hc0 : 0 < c) (hc : c ≤ 30) : conv c (nI x) = nI (100 * (x / c) + x % c) := by
  unfold conv
  rw [if_neg (fun q => (nM1 _ (by omega)).mp q), nRn _ _ (by omega) hc0 (by omega), nDn _ _ (by omega) hc0 (by omega), show (100 : Int32) * nI (x / c) = nI (100 * (x / c)) from pk_mul 100 _, nI_add]
theorem conv_m : conv c (-1) = -1 := if_pos rfl
/-- one trial: a cell changed, looked at, and changed back -/
theorem rt_now {pt qt : Nat → Int32} {E : zD} (h : rt w k ns nc d cv pt D) (g : agL pN D E) (hp : ∀ s, s < ns → gI E 195 s = qt s) : (2 ≤ w ∧ w ≤ 6 ∧ 2 ≤ k ∧ k ≤ 5 ∧ gI E 102 14 = nI w ∧ gI E 102 15 = nI k) ∧ rcv ns nc d cv E ∧ (∀ s, s < ns → gI E 195 s = qt s) ∧ ∀ i j, i < ns → j < ns → gI E (183 + i) j = bI (offd nc cv (2 * d) pt i j) :=
  ⟨⟨h.1.1, h.1.2.1, h.1.2.2.1, h.1.2.2.2.1, by rw [g.1 _ _ (by unfold pN; omega)]; exact h.1.2.2.2.2.1, by rw [g.1 _ _ (by unfold pN; omega)]; exact h.1.2.2.2.2.2⟩, h.2.1.keep g (by unfold pN; intros; omega), hp, fun i j hi hj => by have := h.2.1.1.1; rw [g.1 _ _ (by unfold pN; omega)]; exact h.2.2.2 i j hi hj⟩
theorem r_changes {pt : Nat → Int32} (h : rt w k ns nc d cv pt D) (h48 : gI D 102 48 = -1) (h49 : gI D 102 49 = -1) (hncl : ¬ clr ns nc cv (2 * d) pt) : zok (fn_X12_findChanges_35 zFU (nI (ns * (w * k))) 0 D) fun q => sp_ch (w * k) ns pt nc cv (2 * d) q.1 (conv (w * k) (gI q.2 102 48)) (conv (w * k) (gI q.2 102 49)) ∧ agL pF D q.2 := by
  have hr := h.2.1
  have hn := hr.1.1
  obtain ⟨w2, w6, k2, k5, b0, b1⟩ := h.1
  have h30 := wh_le w6 k5
  have h4 := cpos w2 k2
  have hns := nsc hn h30
  refine z_inv (ns * (w * k)) (fun n x (E : zD) => fn_X12_findChanges_35 n (nI (ns * (w * k))) (nI x) E) (fun x E => rt w k ns nc d cv pt E ∧ agL pN D E ∧ ∀ y, y < x → ¬ clr ns nc cv (2 * d) (fl1 (w * k) pt y)) _ ?_ ?_ 0 zFU D (Nat.zero_le _) (zfu_gt (by omega)) ⟨h, agL.refl, fun y hy => by omega⟩
  · intro n x E hx ⟨g1, g2, g3⟩ ih
    show zok (fn_X12_findChanges_35 (n + 1) (nI (ns * (w * k))) (nI x) E) _
    obtain ⟨d1, d2, d3, d4⟩ := dm3 hx
    have c0 := g1.1.2.2.2.2.1
    have c1 := g1.1.2.2.2.2.2
    obtain ⟨r, r1, r2⟩ := r_couldBe g1.2.1.2.1 hn g1.2.2.2 d1 d1
    rw [fn_X12_findChanges_35, if_neg (nI_ge hx (by omega)), r_cells c0 c1, Option.bind_some, zdv_nI d3 (by omega), Option.bind_some, zdv_nI d3 (by omega), nDn _ _ (by omega) d3 (by omega), r1, Option.bind_some, nI_1]
    have nxt : ∀ F, rt w k ns nc d cv pt F → agL pN D F → ¬ clr ns nc cv (2 * d) (fl1 (w * k) pt x) → zok (fn_X12_findChanges_35 n (nI (ns * (w * k))) (nI (x + 1)) F) fun q => sp_ch (w * k) ns pt nc cv (2 * d) q.1 (conv (w * k) (gI q.2 102 48)) (conv (w * k) (gI q.2 102 49)) ∧ agL pF D q.2 := fun F f1 f2 f3 => ih F ⟨f1, f2, fun y hy => by
      by_cases q : y = x
      · subst q; exact f3
      · exact g3 y (by omega)⟩
    by_cases q : r = 0
    · rw [if_pos q]
      refine nxt E g1 g2 fun hcl => ?_
      have hcs : prs ns (cut (cut (offd nc cv (2 * d) pt) (x / (w * k))) (x / (w * k))) = 0 := by
        rw [prs_zero]
        intro a b ha hb
        unfold cut
        by_cases q1 : a ≠ x / (w * k) ∧ b ≠ x / (w * k)
        · have := hcl a b ha (by omega) (by omega)
          unfold cfp fl1 flp at this
          rw [if_neg q1.1, if_neg q1.2] at this
          unfold offd cfp
          rw [this]
          simp
        · rw [decide_eq_false q1, Bool.and_false]
      have := r2 q
      omega
    · rw [if_neg q]
      refine (r_flips g1.1 hn g1.2.2.1 hx).bind fun F ⟨f1, f2⟩ => ?_
      obtain ⟨u1, u2, u3, u4⟩ := rt_now g1 f2 f1
      obtain ⟨z, z1, z2⟩ := r_isClear u2 u3
      rw [z1, Option.bind_some]
      refine (r_flips u1 hn u3 hx).bind fun G ⟨l1, l2⟩ => ?_
      have htw : fl1 (w * k) (fl1 (w * k) pt x) x = pt := flp_twice pt _ _
      rw [htw] at l1
      have rtG : rt w k ns nc d cv pt G := rt_now g1 (f2.trans l2) l1
      have agG : agL pN D G := (g2.trans f2).trans l2
      rcases z2 with ⟨rfl, z2⟩ | ⟨rfl, z2⟩
      · rw [if_pos rfl]
        exact nxt G rtG agG z2
      · rw [if_neg (by decide), zlet_eq, zok_some]
        have e49 : gI G 102 49 = -1 := by rw [agG.1 _ _ (by unfold pN; omega), h49]
        refine ⟨Or.inr (Or.inl ⟨hncl, x, hx, z2, g3, rfl, ?_, ?_⟩), agL_sI (agG.mono (by unfold pF pN; intros; omega)) (by unfold pF; omega)⟩
        · show conv (w * k) (gI (sI G 102 48 (nI x)) 102 48) = _
          rw [gI_eq, conv_n (by omega) d3 h30]
        · show conv (w * k) (gI (sI G 102 48 (nI x)) 102 49) = _
          rw [gI_nb (by omega), e49, conv_m]
  · intro n E ⟨g1, g2, g3⟩
    show zok (fn_X12_findChanges_35 (n + 1) (nI (ns * (w * k))) (nI (ns * (w * k))) E) _
    rw [fn_X12_findChanges_35, if_pos (nI_le (Nat.le_refl _) (by omega))]
    refine (r_layPairs g1.2.1 g1.2.2.1).bind fun q0 ⟨_, l2, l3⟩ => ?_
    have rt0 : rt w k ns nc d cv pt q0.2 := ⟨⟨w2, w6, k2, k5, by rw [l3.1 _ _ (by unfold pR; omega)]; exact g1.1.2.2.2.2.1, by rw [l3.1 _ _ (by unfold pR; omega)]; exact g1.1.2.2.2.2.2⟩, g1.2.1.keep l3 (by unfold pR; intros; omega), fun s hs => by rw [l3.1 _ _ (by unfold pR; omega)]; exact g1.2.2.1 s hs, l2⟩
    have ag0 : agL pRN D q0.2 := (g2.mono (by unfold pRN pN; intros; omega)).trans (l3.mono (by unfold pRN pR; intros; omega))
    generalize q0.2 = E0 at rt0 ag0 ⊢
    refine z_inv (ns * (w * k)) (fun n x (E : zD) => fn_X12_findChanges_104 n (nI (ns * (w * k))) (nI x) E) (fun x E => rt w k ns nc d cv pt E ∧ agL pRN D E ∧ ∀ u v, u < x → u < v → v < ns * (w * k) → ¬ clr ns nc cv (2 * d) (fl1 (w * k) (fl1 (w * k) pt u) v)) _ ?_ ?_ 0 zFU E0 (Nat.zero_le _) (zfu_gt (by omega)) ⟨rt0, ag0, fun u v q => by omega⟩
    · intro n x E hx ⟨a1, a2, a3⟩ ih
      show zok (fn_X12_findChanges_104 (n + 1) (nI (ns * (w * k))) (nI x) E) _
      obtain ⟨d1, d2, d3, d4⟩ := dm3 hx
      rw [fn_X12_findChanges_104, if_neg (nI_ge hx (by omega)), zlet_eq, nI_1]
      refine z_inv (ns * (w * k)) (fun m y (E : zD) => fn_X12_findChanges_113 (fn_X12_findChanges_104 n) m (nI (ns * (w * k))) (nI x) (nI y) E) (fun y E => x + 1 ≤ y ∧ rt w k ns nc d cv pt E ∧ agL pRN D E ∧ ∀ v, x < v → v < y → ¬ clr ns nc cv (2 * d) (fl1 (w * k) (fl1 (w * k) pt x) v)) _ ?_ ?_ (x + 1) zFU E (by omega) (zfu_gt (by omega)) ⟨by omega, a1, a2, fun v h1 h2 => by omega⟩
      · intro m y E hy ⟨m0, m1, m2, m3⟩ ih2
        show zok (fn_X12_findChanges_113 (fn_X12_findChanges_104 n) (m + 1) (nI (ns * (w * k))) (nI x) (nI y) E) _
        obtain ⟨e1, e2, e3, e4⟩ := dm3 hy
        have c0 := m1.1.2.2.2.2.1
        have c1 := m1.1.2.2.2.2.2
        obtain ⟨r, r1, r2⟩ := r_couldBe m1.2.1.2.1 hn m1.2.2.2 d1 e1
        rw [fn_X12_findChanges_113, if_neg (nI_ge hy (by omega)), r_cells c0 c1, Option.bind_some, zdv_nI d3 (by omega), Option.bind_some, zdv_nI d3 (by omega), nDn _ _ (by omega) d3 (by omega), nDn _ _ (by omega) d3 (by omega), r1, Option.bind_some, nI_1]
        have nxt : ∀ F, rt w k ns nc d cv pt F → agL pRN D F → ¬ clr ns nc cv (2 * d) (fl1 (w * k) (fl1 (w * k) pt x) y) → zok (fn_X12_findChanges_113 (fn_X12_findChanges_104 n) m (nI (ns * (w * k))) (nI x) (nI (y + 1)) F) fun q => sp_ch (w * k) ns pt nc cv (2 * d) q.1 (conv (w * k) (gI q.2 102 48)) (conv (w * k) (gI q.2 102 49)) ∧ agL pF D q.2 := fun F f1 f2 f3 => ih2 F ⟨by omega, f1, f2, fun v hv1 hv2 => by
          by_cases q : v = y
          · subst q; exact f3
          · exact m3 v hv1 (by omega)⟩
        by_cases q : r = 0
        · rw [if_pos q]
          refine nxt E m1 m2 fun hcl => ?_
          have := cut_stands hcl
          have := r2 q
          omega
        · rw [if_neg q]
          refine (r_flips m1.1 hn m1.2.2.1 hx).bind fun F1 ⟨f1, f2⟩ => ?_
          obtain ⟨u1, u2, u3, u4⟩ := rt_now m1 f2 f1
          refine (r_flips u1 hn u3 hy).bind fun F2 ⟨f3, f4⟩ => ?_
          obtain ⟨v1, v2, v3, v4⟩ := rt_now m1 (f2.trans f4) f3
          obtain ⟨z, z1, z2⟩ := r_isClear v2 v3
          rw [z1, Option.bind_some]
          refine (r_flips v1 hn v3 hy).bind fun F3 ⟨f5, f6⟩ => ?_
          have htw : fl1 (w * k) (fl1 (w * k) (fl1 (w * k) pt x) y) y = fl1 (w * k) pt x := flp_twice _ _ _
          rw [htw] at f5
          obtain ⟨x1, x2, x3, x4⟩ := rt_now m1 ((f2.trans f4).trans f6) f5
          refine (r_flips x1 hn x3 hx).bind fun G ⟨l1, l2⟩ => ?_
          have htw2 : fl1 (w * k) (fl1 (w * k) pt x) x = pt := flp_twice _ _ _
          rw [htw2] at l1
          have rtG : rt w k ns nc d cv pt G := rt_now m1 (((f2.trans f4).trans f6).trans l2) l1
          have agG : agL pRN D G := m2.trans ((((f2.trans f4).trans f6).trans l2).mono (by unfold pRN pN; intros; omega))
          rcases z2 with ⟨rfl, z2⟩ | ⟨rfl, z2⟩
          · rw [if_pos rfl]
            exact nxt G rtG agG z2
          · rw [if_neg (by decide)]
            unfold fn_X12_findChanges_174
            rw [zlet_eq, zlet_eq, zok_some]
            refine ⟨Or.inr (Or.inr (Or.inl ⟨hncl, g3, x, y, by omega, hy, z2, fun u v huv hv hlt hcl => ?_, rfl, ?_, ?_⟩)), agL_sI (agL_sI (agG.mono (by unfold pF pRN; intros; omega)) (by unfold pF; omega)) (by unfold pF; omega)⟩
            · rcases hlt with g | ⟨rfl, g⟩
              · exact a3 u v g huv hv hcl
              · exact m3 v huv g hcl
            · show conv (w * k) (gI (sI (sI G 102 48 (nI x)) 102 49 (nI y)) 102 48) = _
              rw [gI_nb (by omega), gI_eq, conv_n (by omega) d3 h30]
            · show conv (w * k) (gI (sI (sI G 102 48 (nI x)) 102 49 (nI y)) 102 49) = _
              rw [gI_eq, conv_n (by omega) d3 h30]
      · intro m E ⟨m0, m1, m2, m3⟩
        show zok (fn_X12_findChanges_113 (fn_X12_findChanges_104 n) (m + 1) (nI (ns * (w * k))) (nI x) (nI (ns * (w * k))) E) _
        rw [fn_X12_findChanges_113, if_pos (nI_le (Nat.le_refl _) (by omega)), nI_1]
        refine ih E ⟨m1, m2, fun u v hu huv hv => ?_⟩
        by_cases q : u = x
        · subst q; exact m3 v huv hv
        · exact a3 u v (by omega) huv hv
    · intro n E ⟨a1, a2, a3⟩
      show zok (fn_X12_findChanges_104 (n + 1) (nI (ns * (w * k))) (nI (ns * (w * k))) E) _
      rw [fn_X12_findChanges_104, if_pos (nI_le (Nat.le_refl _) (by omega)), zok_some]
      have e48 : gI E 102 48 = -1 := by rw [a2.1 _ _ (by unfold pRN; omega), h48]
      have e49 : gI E 102 49 = -1 := by rw [a2.1 _ _ (by unfold pRN; omega), h49]
      refine ⟨Or.inr (Or.inr (Or.inr ⟨hncl, g3, fun u v huv hv => a3 u v (by omega) huv hv, rfl, ?_, ?_⟩)), a2.mono (by unfold pF pRN; intros; omega)⟩
      · show conv (w * k) (gI E 102 48) = -1
        rw [e48, conv_m]
      · show conv (w * k) (gI E 102 49) = -1
        rw [e49, conv_m]
theorem pF_iv {E : zD} (h : iv P D) (g : agL pF D E) : iv P E := h.keep (g.1.mono (by unfold pF pcr pA pB pS pI pT; intros; omega)) (g.1.mono (by unfold pF pK; intros; omega)) (g.1.mono (by unfold pF pO; intros; omega))
theorem r_findChanges (h : iv P D) : zok (fn_X12_findChanges D) fun q => sp_ch (P 0 * P 1) (P 2) (gI D 105) (P 4) (gI D 128) (2 * P 5) q.1 (conv (P 0 * P 1) (gI q.2 102 48)) (conv (P 0 * P 1) (gI q.2 102 49)) ∧ agL pF D q.2 := by
  unfold fn_X12_findChanges
  rw [zlet_eq, zlet_eq]
  have a0 : agL pF D (sI (sI D 102 48 (-1)) 102 49 (-1)) := agL_sI (agL_sI agL.refl (by unfold pF; omega)) (by unfold pF; omega)
  have h1 := pF_iv h a0
  have f105 : gI (sI (sI D 102 48 (-1)) 102 49 (-1)) 105 = gI D 105 := by rw [gIf (by omega), gIf (by omega)]
  have f128 : gI (sI (sI D 102 48 (-1)) 102 49 (-1)) 128 = gI D 128 := by rw [gIf (by omega), gIf (by omega)]
  have m := r_lay h1
  rw [zok_bind] at m
  refine zok_bind.mpr (m.mono fun E1 hE1 => ?_)
  refine zok_bind.mpr (hE1.mono fun r ⟨r1, r2, r3, r4⟩ => ?_)
  have hrt := iv_rt h1 r4 r2 r3
  rw [f105, f128] at hrt r1
  have e48 : gI r.2 102 48 = -1 := by rw [r4.1 _ _ (by unfold pRN; omega), gI_nb (by omega), gI_eq]
  have e49 : gI r.2 102 49 = -1 := by rw [r4.1 _ _ (by unfold pRN; omega), gI_eq]
  have hpl := prA_le (nc := P 4) (cv := gI D 128) (e := 2 * P 5) (pt := gI D 105) hrt.2.1.1.1
  rw [r1]
  by_cases q : prA (P 2) (P 4) (gI D 128) (2 * P 5) (gI D 105) = 0
  · rw [if_pos (by rw [q]; rfl), zok_some]
    refine ⟨Or.inl ⟨clr_prA.mpr q, rfl, ?_, ?_⟩, a0.trans (r4.mono (by unfold pF pRN; intros; omega))⟩
    · show conv (P 0 * P 1) (gI r.2 102 48) = -1
      rw [e48, conv_m]
    · show conv (P 0 * P 1) (gI r.2 102 49) = -1
      rw [e49, conv_m]
  · rw [if_neg (fun z => q ((nEq0 _ (by omega)).mp z)), r_cells hrt.1.2.2.2.2.1 hrt.1.2.2.2.2.2, Option.bind_some, hrt.2.1.2.1, pk_mul, zlet_eq]
    exact (r_changes hrt e48 e49 (fun hcl => q (clr_prA.mp hcl))).mono fun s ⟨s1, s2⟩ => ⟨s1, (a0.trans (r4.mono (by unfold pF pRN; intros; omega))).trans s2⟩
theorem c_changed (h : iv P D) : zok ((fn_X11_weave D).bind fun D6 => fn_X6_find 81 D6) fun E => sp_ch (P 0 * P 1) (P 2) (gI D 105) (P 4) (gI D 128) (2 * P 5) (gI E 85 1) (gI E 85 2) (gI E 85 3) ∧ iv P E ∧ gI E 105 = gI D 105 ∧ gI E 128 = gI D 128 := by
  refine (c_wv h).bind fun E ⟨e1, e2, e3⟩ => ?_
  have hh := iv_hcv e1
  have f105 : gI E 105 = gI D 105 := funext fun b => e3 _ _ (by unfold pW; omega)
  have f128 : gI E 128 = gI D 128 := funext fun b => e3 _ _ (by unfold pW; omega)
  rw [f128] at hh
  have e1' := e1
  have hh0 : ∀ G, ag pTr E G → hcv (P 4) (P 0 * P 1) (gI D 128) G := fun G g0 => ⟨hh.1, by rw [g0 _ _ (by unfold pTr; omega)]; exact hh.2.1, fun k hk => by rw [g0 _ _ (by have := hh.1; unfold pTr; omega)]; exact hh.2.2.1 k hk, hh.2.2.2⟩
  obtain ⟨⟨⟨hb, ⟨a0, a1, a2, a3⟩, ⟨b0, b1, b2, b3⟩, hs, hw⟩, ⟨hc, c1, c2, hcv⟩, ⟨hd, ⟨z0, z1, z2⟩, ⟨y0, y1, y2⟩, hp, ht⟩, ⟨hi, i0, i1, him⟩, ⟨hta, ta0, ta1, hpl, htb⟩⟩, hK, hO⟩ := e1
  replace y0 : gI _ 102 34 = nI (P 5) := y0
  replace y1 : gI _ 102 35 = nI (P 6) := y1
  replace y2 : gI _ 102 36 = nI (P 7) := y2
  have h30 := wh_le (w := P 0) (h := P 1) (by omega) (by omega)
  have h4 := cpos (w := P 0) (h := P 1) (by omega) (by omega)
  have hpt : ∀ s, s < P 2 → un (gI D 105 s) < 2 ^ (P 0 * P 1) := fun s hs' => by rw [← f105]; exact (hs s hs').2.2.1
  have hpl := prA_le (nc := P 4) (cv := gI D 128) (e := 2 * P 5) (pt := gI D 105) hb.2.2.2.2.1
  have fin : ∀ G, ag pTr E G → iv P G ∧ gI G 105 = gI D 105 ∧ gI G 128 = gI D 128 := fun G hG => ⟨pTr_iv e1' hG, by rw [← f105]; exact funext fun b => hG _ _ (by unfold pTr; omega), by rw [← f128]; exact funext fun b => hG _ _ (by unfold pTr; omega)⟩
  unfold fn_X6_find
  rw [zlet_eq, zlet_eq, zlet_eq]
  have g0 : ag pTr E (sI (sI (sI E 85 1 (-1)) 85 2 (-1)) 85 3 (-1)) := ((ag.refl.sI (by unfold pTr; omega)).sI (by unfold pTr; omega)).sI (by unfold pTr; omega)
  have t0 : tg 81 (P 0 * P 1) (P 2) (P 4) (gI D 128) (2 * P 5) (gI D 105) (sI (sI (sI E 85 1 (-1)) 85 2 (-1)) 85 3 (-1)) := e2.keep fun k j k1 k2 => g0 k j (by unfold pTr; omega)
  have v1 : gI (sI (sI (sI E 85 1 (-1)) 85 2 (-1)) 85 3 (-1)) 85 1 = -1 := by simp (disch := omega) only [Option.bind_some, Option.map_some, zlet_eq, ↓reduceIte, L_2, L_3, L_4, L_5, L_6, L_7, L_8, L_9, L_10, L_12, L_13, L_20, L_24, L_25, L_26, L_27, L_30, L_32, L_33, L_34, L_40, L_48, L_57, L_58, L_60, L_64, L_90, L_93, L_97, L_99, L_100, L_122, L_144, L_255, L_364, L_480, L_500, L_800, L_1000, L_100000, L_4096, L_1023, L_1024, nLe, nLt, nEq, nI_1, nI_add, pk_mul, nSn, nDn, nCl, zck_nI, zdv_nI, nNeg, nLe0, n0Lt, nEq0, nM1, m1N, m1Lt, nLm1, zcb_0, zcb_1, i10, i01, nEq1, n1Eq, nLt1, gI_eq, gI_nb, gI_na, x_badF, x_badT1, x_badT2, bt_0, bt_1, bit1_u, Bool.true_eq_false, Bool.false_eq_true, eq_self, Int32.or_zero, L_11, L_14, L_15, L_16, L_17, L_18, L_19, L_21, L_22, L_23, L_28, L_29, if_pos, if_neg]
  have v2 : gI (sI (sI (sI E 85 1 (-1)) 85 2 (-1)) 85 3 (-1)) 85 2 = -1 := by simp (disch := omega) only [Option.bind_some, Option.map_some, zlet_eq, ↓reduceIte, L_2, L_3, L_4, L_5, L_6, L_7, L_8, L_9, L_10, L_12, L_13, L_20, L_24, L_25, L_26, L_27, L_30, L_32, L_33, L_34, L_40, L_48, L_57, L_58, L_60, L_64, L_90, L_93, L_97, L_99, L_100, L_122, L_144, L_255, L_364, L_480, L_500, L_800, L_1000, L_100000, L_4096, L_1023, L_1024, nLe, nLt, nEq, nI_1, nI_add, pk_mul, nSn, nDn, nCl, zck_nI, zdv_nI, nNeg, nLe0, n0Lt, nEq0, nM1, m1N, m1Lt, nLm1, zcb_0, zcb_1, i10, i01, nEq1, n1Eq, nLt1, gI_eq, gI_nb, gI_na, x_badF, x_badT1, x_badT2, bt_0, bt_1, bit1_u, Bool.true_eq_false, Bool.false_eq_true, eq_self, Int32.or_zero, L_11, L_14, L_15, L_16, L_17, L_18, L_19, L_21, L_22, L_23, L_28, L_29, if_pos, if_neg]
  have v3 : gI (sI (sI (sI E 85 1 (-1)) 85 2 (-1)) 85 3 (-1)) 85 3 = -1 := gI_eq
  replace hh0 := hh0 _ g0
  generalize sI (sI (sI E 85 1 (-1)) 85 2 (-1)) 85 3 (-1) = E0 at *
  rw [t0.2.2.2.1]
  by_cases q : prA (P 2) (P 4) (gI D 128) (2 * P 5) (gI D 105) = 0
  · rw [if_pos (by rw [q]; rfl), zlet_eq, zok_some]
    exact ⟨Or.inl ⟨clr_prA.mpr q, gI_eq, by rw [gI_nb (by omega), v2], by rw [gI_nb (by omega), v3]⟩, fin _ (g0.sI (by unfold pTr; omega))⟩
  · have hncl : ¬ clr (P 2) (P 4) (gI D 128) (2 * P 5) (gI D 105) := fun z => q (clr_prA.mp z)
    rw [if_neg (fun z => q ((nEq0 _ (by omega)).mp z))]
    refine (c_byOne (by omega) (by omega) t0).bind fun r hr => ?_
    rcases hr with ⟨r1, r2, r3⟩ | ⟨r1, x, x1, x2, x3, x4⟩
    · rw [r1, if_pos rfl, r2]
      refine (c_byTwo hh0 (by omega) (by omega) (by omega) (by omega) hpt t0 hncl).bind fun G ⟨l1, l2⟩ => ?_
      rw [zok_some]
      refine ⟨?_, fin _ (g0.trans l1)⟩
      rcases l2 with ⟨m1, m2, m3, m4⟩ | ⟨x, y, m1, m2, m3, m4, m5, m6, m7⟩
      · exact Or.inr (Or.inr (Or.inr ⟨hncl, r3, m4, by rw [m1, v1], by rw [m2, v2], by rw [m3, v3]⟩))
      · exact Or.inr (Or.inr (Or.inl ⟨hncl, r3, x, y, m1, m2, m3, m4, m5, m6, m7⟩))
    · rw [r1, if_neg (by decide), zok_some, x4]
      exact ⟨Or.inr (Or.inl ⟨hncl, x, x1, x2, x3, by rw [gI_nb (by omega), gI_eq], gI_eq, by rw [gI_nb (by omega), gI_nb (by omega), v3]⟩), fin _ ((g0.sI (by unfold pTr; omega)).sI (by unfold pTr; omega))⟩
theorem tk_changed (h : iv P D) (v : Int32) : twin (wk1 1) (fn_X11_changed v D) (fn_X12_changed v) := by
  have h' := h
  obtain ⟨⟨⟨hb, ⟨a0, a1, a2, a3⟩, ⟨b0, b1, b2, b3⟩, hs, hw⟩, ⟨hc, c1, c2, hcv⟩, ⟨hd, ⟨z0, z1, z2⟩, ⟨y0, y1, y2⟩, hp, ht⟩, ⟨hi, i0, i1, him⟩, ⟨hta, ta0, ta1, hpl, htb⟩⟩, hK, hO⟩ := h
  replace y0 : gI _ 102 34 = nI (P 5) := y0
  replace y1 : gI _ 102 35 = nI (P 6) := y1
  replace y2 : gI _ 102 36 = nI (P 7) := y2
  have hst := c_changed h'
  have h30 := wh_le (w := P 0) (h := P 1) (by omega) (by omega)
  have h4 := cpos (w := P 0) (h := P 1) (by omega) (by omega)
  unfold fn_X11_changed
  rcases x_inK (v := v) (n := 2) (by omega) with ⟨e, g⟩ | ⟨e, j, hj, rfl⟩
  · refine twin_tt h' (e := 1) (t := 1) rfl (by decide) (by rw [show (2 : Int32) = nI 2 from rfl, c_needWhat (by omega) g]; rfl) fun E hE he => ?_
    unfold fn_X12_changed fn_X12_changed_20
    simp (disch := omega) only [Option.bind_some, Option.map_some, zlet_eq, ↓reduceIte, L_2, L_3, L_4, L_5, L_6, L_7, L_8, L_9, L_10, L_12, L_13, L_20, L_24, L_25, L_26, L_27, L_30, L_32, L_33, L_34, L_40, L_48, L_57, L_58, L_60, L_64, L_90, L_93, L_97, L_99, L_100, L_122, L_144, L_255, L_364, L_480, L_500, L_800, L_1000, L_100000, L_4096, L_1023, L_1024, nLe, nLt, nEq, nI_1, nI_add, pk_mul, nSn, nDn, nCl, zck_nI, zdv_nI, nNeg, nLe0, n0Lt, nEq0, nM1, m1N, m1Lt, nLm1, zcb_0, zcb_1, i10, i01, nEq1, n1Eq, nLt1, gI_eq, gI_nb, gI_na, x_badF, x_badT1, x_badT2, bt_0, bt_1, bit1_u, Bool.true_eq_false, Bool.false_eq_true, eq_self, Int32.or_zero, L_11, L_14, L_15, L_16, L_17, L_18, L_19, L_21, L_22, L_23, L_28, L_29, if_pos, if_neg, e]
  · rw [show fn_X11_needWhat (nI j) 2 = some 0 from c_needWhatJ (n := 2) (by omega) hj, Option.bind_some, if_pos rfl, show fn_X11_keptAt 2 D = some (gI D 101 2) from c_keptAt (k := 2) (by omega), Option.bind_some]
    have main : ∀ F, iv P F → gI F 105 = gI D 105 → gI F 128 = gI D 128 → sp_ch (P 0 * P 1) (P 2) (gI D 105) (P 4) (gI D 128) (2 * P 5) (gI F 101 2) (gI F 101 3) (gI F 101 4) → twin (wk1 1) (fn_X11_changed_67 (nI j) F) (fn_X12_changed (nI j)) := by
      intro F hF f105 f128 hsp
      unfold fn_X11_changed_67
      rw [show (2 : Int32) + nI j = nI (2 + j) from nI_add 2 j, c_keptAt (by omega), Option.bind_some]
      refine zok_some.mpr fun E hE => ?_
      have hi' := (hF.int hE).thr 0
      have g105 : gI (sI E 102 0 0) 105 = gI D 105 := by rw [gIf (by omega), ← f105]; exact funext fun b => by show E.2 105 b = _; rw [hE]; rfl
      have g128 : gI (sI E 102 0 0) 128 = gI D 128 := by rw [gIf (by omega), ← f128]; exact funext fun b => by show E.2 128 b = _; rw [hE]; rfl
      have m := r_findChanges hi'
      rw [g105, g128] at m
      unfold fn_X12_changed fn_X12_changed_20
      simp (disch := omega) only [Option.bind_some, Option.map_some, zlet_eq, ↓reduceIte, L_2, L_3, L_4, L_5, L_6, L_7, L_8, L_9, L_10, L_12, L_13, L_20, L_24, L_25, L_26, L_27, L_30, L_32, L_33, L_34, L_40, L_48, L_57, L_58, L_60, L_64, L_90, L_93, L_97, L_99, L_100, L_122, L_144, L_255, L_364, L_480, L_500, L_800, L_1000, L_100000, L_4096, L_1023, L_1024, nLe, nLt, nEq, nI_1, nI_add, pk_mul, nSn, nDn, nCl, zck_nI, zdv_nI, nNeg, nLe0, n0Lt, nEq0, nM1, m1N, m1Lt, nLm1, zcb_0, zcb_1, i10, i01, nEq1, n1Eq, nLt1, gI_eq, gI_nb, gI_na, x_badF, x_badT1, x_badT2, bt_0, bt_1, bit1_u, Bool.true_eq_false, Bool.false_eq_true, eq_self, Int32.or_zero, L_11, L_14, L_15, L_16, L_17, L_18, L_19, L_21, L_22, L_23, L_28, L_29, if_pos, if_neg, e]
      refine zok_bind.mpr (m.mono fun r ⟨r1, r2⟩ => ?_)
      obtain ⟨o1, o2, o3⟩ := sp_ch_one hsp r1
      have hiv := pF_iv hi' r2
      have c0 := hiv.1.1.2.2.1.1
      have c1' := hiv.1.1.2.2.1.2.1
      have fin : ∀ x, x = gI F 101 (2 + j) → (∃ P, iv P r.2) ∧ rel (wk1 1) (.inr (gI F 101 (2 + j))) (gI r.2 102 0) x ∧ gL r.2 206 0 = gL E 206 0 := fun x hx => ⟨⟨P, hiv⟩, ⟨by rw [r2.1 _ _ (by unfold pF; omega), gI_eq], hx⟩, by rw [r2.l]; rfl⟩
      have c50 : ∀ x, j ≠ 0 → zok (fn_X12_changed_50 (nI j) r.1 x r.2) fun q => q.1 = conv (P 0 * P 1) x ∧ q.2 = r.2 := by
        intro x hj0
        unfold fn_X12_changed_50
        rw [if_neg (nI_ne0 (by omega) (by omega))]
        unfold conv
        by_cases qx : x = -1
        · rw [if_pos qx, zok_some, if_pos qx]
          exact ⟨rfl, rfl⟩
        · rw [if_neg qx, r_cells c0 c1', Option.bind_some, zdv_nI (by omega) (by omega), Option.bind_some, zdv_nI (by omega) (by omega), zok_some, if_neg qx]
          exact ⟨rfl, rfl⟩
      rcases (show j = 0 ∨ j = 1 ∨ j = 2 by omega) with rfl | rfl | rfl
      · rw [if_neg (by decide)]
        unfold fn_X12_changed_50
        rw [if_pos (show nI 0 = 0 from rfl), zok_some]
        exact fin _ o1.symm
      · rw [if_pos rfl]
        refine (c50 _ (by omega)).mono fun s ⟨s1, s2⟩ => ?_
        rw [s2, s1]
        exact fin _ o2.symm
      · rw [if_neg (by decide)]
        refine (c50 _ (by omega)).mono fun s ⟨s1, s2⟩ => ?_
        rw [s2, s1]
        exact fin _ o3.symm
    by_cases q : gI D 101 2 = -1000000
    · rw [if_pos q]
      obtain ⟨r, er, e1, e3, e4, e5⟩ := hst
      rw [Option.bind_eq_some_iff] at er
      obtain ⟨D6, e6, e7⟩ := er
      rw [e6, Option.bind_some, e7, Option.bind_some, show ∀ v (F : zD), fn_X11_keep 2 v F = some (sI F 101 2 v) from fun v F => c_keep (k := 2) (by omega) _, Option.bind_some, show ∀ v (F : zD), fn_X11_keep 3 v F = some (sI F 101 3 v) from fun v F => c_keep (k := 3) (by omega) _, Option.bind_some, show ∀ v (F : zD), fn_X11_keep 4 v F = some (sI F 101 4 v) from fun v F => c_keep (k := 4) (by omega) _, Option.bind_some, gI_na (by omega), gI_na (by omega), gI_na (by omega)]
      generalize gI r 85 1 = v1 at *
      generalize gI r 85 2 = v2 at *
      generalize gI r 85 3 = v3 at *
      have hg : ag pM r (sI (sI (sI r 101 2 v1) 101 3 v2) 101 4 v3) := ((ag.refl.sI (by unfold pM; omega)).sI (by unfold pM; omega)).sI (by unfold pM; omega)
      have w2 : gI (sI (sI (sI r 101 2 v1) 101 3 v2) 101 4 v3) 101 2 = v1 := by simp (disch := omega) only [Option.bind_some, Option.map_some, zlet_eq, ↓reduceIte, L_2, L_3, L_4, L_5, L_6, L_7, L_8, L_9, L_10, L_12, L_13, L_20, L_24, L_25, L_26, L_27, L_30, L_32, L_33, L_34, L_40, L_48, L_57, L_58, L_60, L_64, L_90, L_93, L_97, L_99, L_100, L_122, L_144, L_255, L_364, L_480, L_500, L_800, L_1000, L_100000, L_4096, L_1023, L_1024, nLe, nLt, nEq, nI_1, nI_add, pk_mul, nSn, nDn, nCl, zck_nI, zdv_nI, nNeg, nLe0, n0Lt, nEq0, nM1, m1N, m1Lt, nLm1, zcb_0, zcb_1, i10, i01, nEq1, n1Eq, nLt1, gI_eq, gI_nb, gI_na, x_badF, x_badT1, x_badT2, bt_0, bt_1, bit1_u, Bool.true_eq_false, Bool.false_eq_true, eq_self, Int32.or_zero, L_11, L_14, L_15, L_16, L_17, L_18, L_19, L_21, L_22, L_23, L_28, L_29, if_pos, if_neg]
      have w3 : gI (sI (sI (sI r 101 2 v1) 101 3 v2) 101 4 v3) 101 3 = v2 := by simp (disch := omega) only [Option.bind_some, Option.map_some, zlet_eq, ↓reduceIte, L_2, L_3, L_4, L_5, L_6, L_7, L_8, L_9, L_10, L_12, L_13, L_20, L_24, L_25, L_26, L_27, L_30, L_32, L_33, L_34, L_40, L_48, L_57, L_58, L_60, L_64, L_90, L_93, L_97, L_99, L_100, L_122, L_144, L_255, L_364, L_480, L_500, L_800, L_1000, L_100000, L_4096, L_1023, L_1024, nLe, nLt, nEq, nI_1, nI_add, pk_mul, nSn, nDn, nCl, zck_nI, zdv_nI, nNeg, nLe0, n0Lt, nEq0, nM1, m1N, m1Lt, nLm1, zcb_0, zcb_1, i10, i01, nEq1, n1Eq, nLt1, gI_eq, gI_nb, gI_na, x_badF, x_badT1, x_badT2, bt_0, bt_1, bit1_u, Bool.true_eq_false, Bool.false_eq_true, eq_self, Int32.or_zero, L_11, L_14, L_15, L_16, L_17, L_18, L_19, L_21, L_22, L_23, L_28, L_29, if_pos, if_neg]
      have w4 : gI (sI (sI (sI r 101 2 v1) 101 3 v2) 101 4 v3) 101 4 = v3 := gI_eq
      refine main _ (pM_iv e3 hg (e3.2.1.mk hg (Or.inl ⟨by simp (disch := omega) only [Option.bind_some, Option.map_some, zlet_eq, ↓reduceIte, L_2, L_3, L_4, L_5, L_6, L_7, L_8, L_9, L_10, L_12, L_13, L_20, L_24, L_25, L_26, L_27, L_30, L_32, L_33, L_34, L_40, L_48, L_57, L_58, L_60, L_64, L_90, L_93, L_97, L_99, L_100, L_122, L_144, L_255, L_364, L_480, L_500, L_800, L_1000, L_100000, L_4096, L_1023, L_1024, nLe, nLt, nEq, nI_1, nI_add, pk_mul, nSn, nDn, nCl, zck_nI, zdv_nI, nNeg, nLe0, n0Lt, nEq0, nM1, m1N, m1Lt, nLm1, zcb_0, zcb_1, i10, i01, nEq1, n1Eq, nLt1, gI_eq, gI_nb, gI_na, x_badF, x_badT1, x_badT2, bt_0, bt_1, bit1_u, Bool.true_eq_false, Bool.false_eq_true, eq_self, Int32.or_zero, L_11, L_14, L_15, L_16, L_17, L_18, L_19, L_21, L_22, L_23, L_28, L_29, if_pos, if_neg], by simp (disch := omega) only [Option.bind_some, Option.map_some, zlet_eq, ↓reduceIte, L_2, L_3, L_4, L_5, L_6, L_7, L_8, L_9, L_10, L_12, L_13, L_20, L_24, L_25, L_26, L_27, L_30, L_32, L_33, L_34, L_40, L_48, L_57, L_58, L_60, L_64, L_90, L_93, L_97, L_99, L_100, L_122, L_144, L_255, L_364, L_480, L_500, L_800, L_1000, L_100000, L_4096, L_1023, L_1024, nLe, nLt, nEq, nI_1, nI_add, pk_mul, nSn, nDn, nCl, zck_nI, zdv_nI, nNeg, nLe0, n0Lt, nEq0, nM1, m1N, m1Lt, nLm1, zcb_0, zcb_1, i10, i01, nEq1, n1Eq, nLt1, gI_eq, gI_nb, gI_na, x_badF, x_badT1, x_badT2, bt_0, bt_1, bit1_u, Bool.true_eq_false, Bool.false_eq_true, eq_self, Int32.or_zero, L_11, L_14, L_15, L_16, L_17, L_18, L_19, L_21, L_22, L_23, L_28, L_29, if_pos, if_neg]⟩) (Or.inr (by rw [w2, w3, w4, e4, e5]; exact e1)) (Or.inl ⟨by simp (disch := omega) only [Option.bind_some, Option.map_some, zlet_eq, ↓reduceIte, L_2, L_3, L_4, L_5, L_6, L_7, L_8, L_9, L_10, L_12, L_13, L_20, L_24, L_25, L_26, L_27, L_30, L_32, L_33, L_34, L_40, L_48, L_57, L_58, L_60, L_64, L_90, L_93, L_97, L_99, L_100, L_122, L_144, L_255, L_364, L_480, L_500, L_800, L_1000, L_100000, L_4096, L_1023, L_1024, nLe, nLt, nEq, nI_1, nI_add, pk_mul, nSn, nDn, nCl, zck_nI, zdv_nI, nNeg, nLe0, n0Lt, nEq0, nM1, m1N, m1Lt, nLm1, zcb_0, zcb_1, i10, i01, nEq1, n1Eq, nLt1, gI_eq, gI_nb, gI_na, x_badF, x_badT1, x_badT2, bt_0, bt_1, bit1_u, Bool.true_eq_false, Bool.false_eq_true, eq_self, Int32.or_zero, L_11, L_14, L_15, L_16, L_17, L_18, L_19, L_21, L_22, L_23, L_28, L_29, if_pos, if_neg], by simp (disch := omega) only [Option.bind_some, Option.map_some, zlet_eq, ↓reduceIte, L_2, L_3, L_4, L_5, L_6, L_7, L_8, L_9, L_10, L_12, L_13, L_20, L_24, L_25, L_26, L_27, L_30, L_32, L_33, L_34, L_40, L_48, L_57, L_58, L_60, L_64, L_90, L_93, L_97, L_99, L_100, L_122, L_144, L_255, L_364, L_480, L_500, L_800, L_1000, L_100000, L_4096, L_1023, L_1024, nLe, nLt, nEq, nI_1, nI_add, pk_mul, nSn, nDn, nCl, zck_nI, zdv_nI, nNeg, nLe0, n0Lt, nEq0, nM1, m1N, m1Lt, nLm1, zcb_0, zcb_1, i10, i01, nEq1, n1Eq, nLt1, gI_eq, gI_nb, gI_na, x_badF, x_badT1, x_badT2, bt_0, bt_1, bit1_u, Bool.true_eq_false, Bool.false_eq_true, eq_self, Int32.or_zero, L_11, L_14, L_15, L_16, L_17, L_18, L_19, L_21, L_22, L_23, L_28, L_29, if_pos, if_neg]⟩) (Or.inl (by simp (disch := omega) only [Option.bind_some, Option.map_some, zlet_eq, ↓reduceIte, L_2, L_3, L_4, L_5, L_6, L_7, L_8, L_9, L_10, L_12, L_13, L_20, L_24, L_25, L_26, L_27, L_30, L_32, L_33, L_34, L_40, L_48, L_57, L_58, L_60, L_64, L_90, L_93, L_97, L_99, L_100, L_122, L_144, L_255, L_364, L_480, L_500, L_800, L_1000, L_100000, L_4096, L_1023, L_1024, nLe, nLt, nEq, nI_1, nI_add, pk_mul, nSn, nDn, nCl, zck_nI, zdv_nI, nNeg, nLe0, n0Lt, nEq0, nM1, m1N, m1Lt, nLm1, zcb_0, zcb_1, i10, i01, nEq1, n1Eq, nLt1, gI_eq, gI_nb, gI_na, x_badF, x_badT1, x_badT2, bt_0, bt_1, bit1_u, Bool.true_eq_false, Bool.false_eq_true, eq_self, Int32.or_zero, L_11, L_14, L_15, L_16, L_17, L_18, L_19, L_21, L_22, L_23, L_28, L_29, if_pos, if_neg])) (Or.inl (by simp (disch := omega) only [Option.bind_some, Option.map_some, zlet_eq, ↓reduceIte, L_2, L_3, L_4, L_5, L_6, L_7, L_8, L_9, L_10, L_12, L_13, L_20, L_24, L_25, L_26, L_27, L_30, L_32, L_33, L_34, L_40, L_48, L_57, L_58, L_60, L_64, L_90, L_93, L_97, L_99, L_100, L_122, L_144, L_255, L_364, L_480, L_500, L_800, L_1000, L_100000, L_4096, L_1023, L_1024, nLe, nLt, nEq, nI_1, nI_add, pk_mul, nSn, nDn, nCl, zck_nI, zdv_nI, nNeg, nLe0, n0Lt, nEq0, nM1, m1N, m1Lt, nLm1, zcb_0, zcb_1, i10, i01, nEq1, n1Eq, nLt1, gI_eq, gI_nb, gI_na, x_badF, x_badT1, x_badT2, bt_0, bt_1, bit1_u, Bool.true_eq_false, Bool.false_eq_true, eq_self, Int32.or_zero, L_11, L_14, L_15, L_16, L_17, L_18, L_19, L_21, L_22, L_23, L_28, L_29, if_pos, if_neg])) (Or.inl (by simp (disch := omega) only [Option.bind_some, Option.map_some, zlet_eq, ↓reduceIte, L_2, L_3, L_4, L_5, L_6, L_7, L_8, L_9, L_10, L_12, L_13, L_20, L_24, L_25, L_26, L_27, L_30, L_32, L_33, L_34, L_40, L_48, L_57, L_58, L_60, L_64, L_90, L_93, L_97, L_99, L_100, L_122, L_144, L_255, L_364, L_480, L_500, L_800, L_1000, L_100000, L_4096, L_1023, L_1024, nLe, nLt, nEq, nI_1, nI_add, pk_mul, nSn, nDn, nCl, zck_nI, zdv_nI, nNeg, nLe0, n0Lt, nEq0, nM1, m1N, m1Lt, nLm1, zcb_0, zcb_1, i10, i01, nEq1, n1Eq, nLt1, gI_eq, gI_nb, gI_na, x_badF, x_badT1, x_badT2, bt_0, bt_1, bit1_u, Bool.true_eq_false, Bool.false_eq_true, eq_self, Int32.or_zero, L_11, L_14, L_15, L_16, L_17, L_18, L_19, L_21, L_22, L_23, L_28, L_29, if_pos, if_neg])) (fun s hs' => Or.inl ⟨by simp (disch := omega) only [Option.bind_some, Option.map_some, zlet_eq, ↓reduceIte, L_2, L_3, L_4, L_5, L_6, L_7, L_8, L_9, L_10, L_12, L_13, L_20, L_24, L_25, L_26, L_27, L_30, L_32, L_33, L_34, L_40, L_48, L_57, L_58, L_60, L_64, L_90, L_93, L_97, L_99, L_100, L_122, L_144, L_255, L_364, L_480, L_500, L_800, L_1000, L_100000, L_4096, L_1023, L_1024, nLe, nLt, nEq, nI_1, nI_add, pk_mul, nSn, nDn, nCl, zck_nI, zdv_nI, nNeg, nLe0, n0Lt, nEq0, nM1, m1N, m1Lt, nLm1, zcb_0, zcb_1, i10, i01, nEq1, n1Eq, nLt1, gI_eq, gI_nb, gI_na, x_badF, x_badT1, x_badT2, bt_0, bt_1, bit1_u, Bool.true_eq_false, Bool.false_eq_true, eq_self, Int32.or_zero, L_11, L_14, L_15, L_16, L_17, L_18, L_19, L_21, L_22, L_23, L_28, L_29, if_pos, if_neg], by simp (disch := omega) only [Option.bind_some, Option.map_some, zlet_eq, ↓reduceIte, L_2, L_3, L_4, L_5, L_6, L_7, L_8, L_9, L_10, L_12, L_13, L_20, L_24, L_25, L_26, L_27, L_30, L_32, L_33, L_34, L_40, L_48, L_57, L_58, L_60, L_64, L_90, L_93, L_97, L_99, L_100, L_122, L_144, L_255, L_364, L_480, L_500, L_800, L_1000, L_100000, L_4096, L_1023, L_1024, nLe, nLt, nEq, nI_1, nI_add, pk_mul, nSn, nDn, nCl, zck_nI, zdv_nI, nNeg, nLe0, n0Lt, nEq0, nM1, m1N, m1Lt, nLm1, zcb_0, zcb_1, i10, i01, nEq1, n1Eq, nLt1, gI_eq, gI_nb, gI_na, x_badF, x_badT1, x_badT2, bt_0, bt_1, bit1_u, Bool.true_eq_false, Bool.false_eq_true, eq_self, Int32.or_zero, L_11, L_14, L_15, L_16, L_17, L_18, L_19, L_21, L_22, L_23, L_28, L_29, if_pos, if_neg]⟩))) (by rw [gIf (by omega), gIf (by omega), gIf (by omega), e4]) (by rw [gIf (by omega), gIf (by omega), gIf (by omega), e5]) (by rw [w2, w3, w4]; exact e1)
    · rw [if_neg q]
      rcases hK.2.2.1 with k | k
      · exact absurd k q
      · exact main D h' rfl rfl k
end M76
