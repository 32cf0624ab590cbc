/-! THE MATHEMATICS: strokes, the reference -/
def nz (b : Bool) (x : Nat) : Int32 := if b = true then nI x else -1
def pRs (a _b : Nat) : Prop := a ≠ 196 ∧ a ≠ 197 ∧ a ≠ 198 ∧ a ≠ 199
def kG (bl : Nat → Bool) (H V : Nat → Nat) (c : Nat) (D : zD) : Prop := ∀ i, i < c → gI D 196 i = nz (bl i) (H i) ∧ gI D 197 i = nz (bl i) (V i)
def kR (bl : Nat → Bool) (H V : Nat → Nat) (c : Nat) (s : kS) (D : zD) : Prop :=
  kG bl H V c D ∧ (∀ i, i < c → bl i = true → gI D 199 (V i) = bI (s.1 (V i)) ∧ gI D 198 (V i) = pe (fun x => x) (s.2 (V i))) ∧ kP bl H s.2
section M85
variable {D : zD} {P : Nat → Nat} {nc c ns d W h : Nat} {bl : Nat → Bool} {H V ρ κ : Nat → Nat}
theorem nz_t {b : Bool} (hb : b = true) (x : Nat) : nz b x = nI x := if_pos hb
theorem nz_f {b : Bool} (hb : ¬ b = true) (x : Nat) : nz b x = -1 := if_neg hb
theorem kl_white {f : Nat → kS → Bool × kS} {r : Nat} : ∀ m i s, (∀ j, i ≤ j → bl j = false) → kl f bl H V r m i s = (false, s)
  | 0, _, _, _ => rfl
  | m + 1, i, s, h => by
    rw [kl, if_neg (fun q => by rw [h i (Nat.le_refl _)] at q; cases q.1)]
    exact kl_white m (i + 1) s fun j hj => h j (by omega)
theorem kl_mono {f : Nat → kS → Bool × kS} (hf : ∀ r s j, s.1 j = true → (f r s).2.1 j = true) {r : Nat} : ∀ m i s j, s.1 j = true → (kl f bl H V r m i s).2.1 j = true
  | 0, _, _, _, h => h
  | m + 1, i, s, j, h => by
    rw [kl]
    have h1 : (kmk s (V i)).1 j = true := by show (s.1 j || decide (j = V i)) = true; rw [h, Bool.true_or]
    by_cases q : bl i = true ∧ H i = r ∧ s.1 (V i) = false
    · rw [if_pos q]
      cases q2 : s.2 (V i) with
      | none => exact h1
      | some u =>
        show (if (f u (kmk s (V i))).1 = true then (true, kset (f u (kmk s (V i))).2 (V i) r) else kl f bl H V r m (i + 1) (f u (kmk s (V i))).2).2.1 j = true
        by_cases q3 : (f u (kmk s (V i))).1 = true
        · rw [if_pos q3]; exact hf u _ j h1
        · rw [if_neg q3]; exact kl_mono hf m (i + 1) _ j (hf u _ j h1)
    · rw [if_neg q]; exact kl_mono hf m (i + 1) s j h
theorem kf_mono : ∀ f r s j, s.1 j = true → (kf bl H V f r s).2.1 j = true
  | 0, _, _, _, h => h
  | f + 1, r, s, j, h => kl_mono (kf_mono f) 30 0 s j h
theorem kmk_ct {s : kS} {j : Nat} (hj : j < 30) (h : s.1 j = false) : fb_ct (kmk s j).1 30 = fb_ct s.1 30 + 1 := by
  have e := fb_ct_upd s.1 true (i := j) (n := 30) hj
  rw [h, if_neg (by decide), if_pos rfl, Nat.add_zero] at e
  rw [← e]
  refine fb_ct_cong fun k _ => ?_
  show (s.1 k || decide (k = j)) = if k = j then true else s.1 k
  by_cases q : k = j
  · rw [if_pos q, decide_eq_true q, Bool.or_true]
  · rw [if_neg q, decide_eq_false q, Bool.or_false]
theorem r_finds (h14 : gI D 102 14 = nI W) (h15 : gI D 102 15 = nI h) (hc : W * h ≤ 30) (hW : W ≤ 6) (hh : h ≤ 5) (hbl : ∀ i, W * h ≤ i → bl i = false) (hH : ∀ i, H i ≤ i) (hV : ∀ i, V i ≤ i) : ∀ (f g r : Nat) (s : kS) (E : zD), f < g → 31 ≤ f + fb_ct s.1 30 → r < 30 → (∃ k, k < 30 ∧ bl k = true ∧ H k = r) → agL pRs D E → kR bl H V (W * h) s E → zok (fn_X12_findsR g (nI r) E) fun q => q.1 = bI (kf bl H V f r s).1 ∧ kR bl H V (W * h) (kf bl H V f r s).2 q.2 ∧ agL pRs D q.2
  | f, 0, _, _, _ => fun h => absurd h (Nat.not_lt_zero _)
  | 0, g + 1, r, s, E => fun _ hd _ _ _ _ => by
    have := fb_ct_le s.1 30
    omega
  | f + 1, g + 1, r, s, E => fun hfg hd hr30 hr hag hk => by
    show zok (fn_X12_finds (fn_X12_findsR g) (nI r) E) _
    unfold fn_X12_finds
    have main : ∀ m i s E n, i + m = 30 → m < n → 31 ≤ f + 1 + fb_ct s.1 30 → agL pRs D E → kR bl H V (W * h) s E → zok (fn_X12_finds_2 (fn_X12_findsR g) (nI r) n (nI i) E) fun q => q.1 = bI (kl (kf bl H V f) bl H V r m i s).1 ∧ kR bl H V (W * h) (kl (kf bl H V f) bl H V r m i s).2 q.2 ∧ agL pRs D q.2 := by
      intro m
      induction m with
      | zero =>
        intro i s E n hi hn hct hag hk
        obtain ⟨n, rfl⟩ : ∃ k, n = k + 1 := ⟨n - 1, by omega⟩
        rw [fn_X12_finds_2, r_cells (w := W) (k := h) (by rw [hag.1 _ _ (by unfold pRs; omega), h14]) (by rw [hag.1 _ _ (by unfold pRs; omega), h15]), Option.bind_some, if_pos (nI_le (by omega) (by omega)), zok_some]
        exact ⟨rfl, hk, hag⟩
      | succ m ih =>
        intro i s E n hi hn hct hag hk
        obtain ⟨n, rfl⟩ : ∃ k, n = k + 1 := ⟨n - 1, by omega⟩
        rw [fn_X12_finds_2, r_cells (w := W) (k := h) (by rw [hag.1 _ _ (by unfold pRs; omega), h14]) (by rw [hag.1 _ _ (by unfold pRs; omega), h15]), Option.bind_some]
        rcases Nat.lt_or_ge i (W * h) with hic | hic
        · have nx := fun s E h1 h2 h3 => ih (i + 1) s E n (by omega) (by omega) h1 h2 h3
          obtain ⟨g1, g2⟩ := hk.1 i hic
          have a1 := hH i
          have a2 := hV i
          rw [if_neg (nI_ge hic (by omega)), zck_nI (by omega) (by omega), nI_clamp (by omega), g1, nI_1]
          by_cases q1 : bl i = true
          · obtain ⟨g3, g4⟩ := hk.2.1 i hic q1
            rw [nz_t q1]
            by_cases q2 : H i = r
            · rw [if_pos (by rw [q2]), zck_nI (by omega) (by omega), g2, nz_t q1, zck_nI (by omega) (by omega), nI_clamp (by omega), g3]
              by_cases q3 : s.1 (V i) = false
              · rw [q3, if_pos (show bI false = 0 from rfl), zck_nI (by omega) (by omega), zck_nI (by omega) (by omega), zlet_eq, zck_nI (by omega) (by omega), gI_na (by omega), g2, nz_t q1, zck_nI (by omega) (by omega), nI_clamp (by omega), gI_na (by omega), g4]
                have hct2 : 31 ≤ f + fb_ct (kmk s (V i)).1 30 := by rw [kmk_ct (by omega) q3]; omega
                have hg1 : agL pRs D (sI E 199 (V i) 1) := agL_sI hag (by unfold pRs; omega)
                have hk1 : kR bl H V (W * h) (kmk s (V i)) (sI E 199 (V i) 1) := by
                  refine ⟨fun j hj => by rw [gI_na (by omega), gI_na (by omega)]; exact hk.1 j hj, fun j hj hbj => ⟨?_, by rw [gI_na (by omega)]; exact (hk.2.1 j hj hbj).2⟩, hk.2.2⟩
                  rw [gI_if]
                  show _ = bI (s.1 (V j) || decide (V j = V i))
                  by_cases e : V j = V i
                  · rw [if_pos e, decide_eq_true e, Bool.or_true]; rfl
                  · rw [if_neg e, decide_eq_false e, Bool.or_false]; exact (hk.2.1 j hj hbj).1
                have done : ∀ s2 F, kR bl H V (W * h) s2 F → agL pRs D F → zok (fn_X12_finds_85 (fn_X12_findsR g) (nI r) (nI i) F) fun q => q.1 = bI true ∧ kR bl H V (W * h) (kset s2 (V i) r) q.2 ∧ agL pRs D q.2 := by
                  intro s2 F hs2 hF
                  unfold fn_X12_finds_85
                  rw [zck_nI (by omega) (by omega), nI_clamp (by omega), (hs2.1 i hic).2, nz_t q1, zck_nI (by omega) (by omega), nI_clamp (by omega), zlet_eq, zok_some]
                  refine ⟨rfl, ⟨fun j hj => by rw [gI_na (by omega), gI_na (by omega)]; exact hs2.1 j hj, fun j hj hbj => ⟨by rw [gI_na (by omega)]; exact (hs2.2.1 j hj hbj).1, ?_⟩, fun j q hq => ?_⟩, agL_sI hF (by unfold pRs; omega)⟩
                  · rw [gI_if]
                    show _ = pe (fun x => x) (if V j = V i then some r else s2.2 (V j))
                    by_cases e : V j = V i
                    · rw [if_pos e, if_pos e]; rfl
                    · rw [if_neg e, if_neg e]; exact (hs2.2.1 j hj hbj).2
                  · replace hq : (if j = V i then some r else s2.2 j) = some q := hq
                    by_cases e : j = V i
                    · rw [if_pos e] at hq; cases hq; exact hr
                    · rw [if_neg e] at hq; exact hs2.2.2 j q hq
                rw [kl, if_pos (show bl i = true ∧ H i = r ∧ s.1 (V i) = false from ⟨q1, q2, q3⟩)]
                cases q4 : s.2 (V i) with
                | none =>
                  rw [show pe (fun x => x) none = -1 from rfl, if_pos rfl]
                  exact done _ _ hk1 hg1
                | some q =>
                  obtain ⟨kq, kq1, kq2, kq3⟩ := hk.2.2 _ _ q4
                  have a3 := hH kq
                  rw [show pe (fun x => x) (some q) = nI q from rfl, if_neg (fun e => (nM1 _ (by omega)).mp e), zck_nI (by omega) (by omega), zck_nI (by omega) (by omega)]
                  refine (r_finds h14 h15 hc hW hh hbl hH hV f g q (kmk s (V i)) _ (by omega) hct2 (by omega) ⟨kq, kq1, kq2, kq3⟩ hg1 hk1).bind fun x ⟨x1, x2, x3⟩ => ?_
                  show zok _ fun (q' : Int32 × zD) => q'.1 = bI (if (kf bl H V f q (kmk s (V i))).1 = true then (true, kset (kf bl H V f q (kmk s (V i))).2 (V i) r) else kl (kf bl H V f) bl H V r m (i + 1) (kf bl H V f q (kmk s (V i))).2).1 ∧ kR bl H V (W * h) (if (kf bl H V f q (kmk s (V i))).1 = true then (true, kset (kf bl H V f q (kmk s (V i))).2 (V i) r) else kl (kf bl H V f) bl H V r m (i + 1) (kf bl H V f q (kmk s (V i))).2).2 q'.2 ∧ agL pRs D q'.2
                  rw [x1]
                  cases q5 : (kf bl H V f q (kmk s (V i))).1
                  · rw [if_pos (show bI false = 0 from rfl), if_neg (by decide)]
                    refine nx _ _ ?_ x3 x2
                    have : fb_ct (kmk s (V i)).1 30 ≤ fb_ct (kf bl H V f q (kmk s (V i))).2.1 30 := fb_ct_sub fun k _ hk => kf_mono f q _ k hk
                    omega
                  · rw [if_neg (show ¬ bI true = 0 by decide), if_pos rfl]
                    exact done _ _ x2 x3
              · have q4 : s.1 (V i) = true := by cases e : s.1 (V i); exact absurd e q3; rfl
                rw [q4, if_neg (show ¬ bI true = 0 by decide), kl, if_neg (fun e => q3 e.2.2)]
                exact nx s E hct hag hk
            · rw [if_neg (fun e => q2 (by rw [nEq _ _ (by omega) (by omega)] at e; exact e)), kl, if_neg (fun e => q2 e.2.1)]
              exact nx s E hct hag hk
          · rw [nz_f q1, if_neg (fun e => (m1N _ (by omega)).mp e), kl, if_neg (fun e => q1 e.1)]
            exact nx s E hct hag hk
        · rw [if_pos (nI_le hic (by omega)), zok_some, kl_white _ _ _ (fun j hj => hbl j (by omega))]
          exact ⟨rfl, hk, hag⟩
    exact main 30 0 s E zFU rfl (by unfold zFU; omega) hd hag hk
theorem kO_white {n : Nat} (hw : ∀ i, n ≤ i → bl i = false) : ∀ m, kO bl H V (n + m) = kO bl H V n
  | 0 => rfl
  | m + 1 => by
    rw [show n + (m + 1) = (n + m) + 1 from rfl, kO, if_neg (fun q => by rw [hw (n + m) (by omega)] at q; cases q.1)]
    exact kO_white hw m
theorem r_count (h14 : gI D 102 14 = nI W) (h15 : gI D 102 15 = nI h) (hc : W * h ≤ 30) (hW : W ≤ 6) (hh : h ≤ 5) (hbl : ∀ i, W * h ≤ i → bl i = false) (hH : ∀ i, H i ≤ i) (hV : ∀ i, V i ≤ i) (v1 : Int32) (h1 : kG bl H V (W * h) D) (h2 : ∀ i, i < W * h → gI D 198 i = -1) : zok (fn_X12_strokes_174 v1 zFU 0 0 D) fun q => q.1 = nI (kO bl H V 30).1 ∧ agL pRs D q.2 := by
  refine z_inv (W * h) (fun n i (s : Int32 × zD) => fn_X12_strokes_174 v1 n s.1 (nI i) s.2) (fun i s => s.1 = nI (kO bl H V i).1 ∧ kG bl H V (W * h) s.2 ∧ (∀ j, j < W * h → bl j = true → gI s.2 198 (V j) = pe (fun x => x) ((kO bl H V i).2 (V j))) ∧ kP bl H (kO bl H V i).2 ∧ agL pRs D s.2) _ ?_ ?_ 0 zFU ((0 : Int32), D) (Nat.zero_le _) (zfu_gt (by omega)) ⟨rfl, h1, fun j hj _ => by have := hV j; exact h2 _ (by omega), fun j q hq => (by cases hq), agL.refl⟩
  · intro n i ⟨s1, E⟩ hi ⟨g1, g2, g3, g4, g5⟩ ih
    replace g1 : s1 = nI (kO bl H V i).1 := g1
    replace g2 : kG bl H V (W * h) E := g2
    replace g5 : agL pRs D E := g5
    have a1 := hH i
    show zok (fn_X12_strokes_174 v1 (n + 1) s1 (nI i) E) _
    rw [fn_X12_strokes_174, r_cells (w := W) (k := h) (by rw [g5.1 _ _ (by unfold pRs; omega), h14]) (by rw [g5.1 _ _ (by unfold pRs; omega), h15]), Option.bind_some, if_neg (nI_ge hi (by omega)), zck_nI (by omega) (by omega), nI_clamp (by omega), (g2 i hi).1, nI_1]
    by_cases q : bl i = true ∧ H i = i
    · rw [nz_t q.1, if_pos (by rw [q.2])]
      refine z_inv 30 (fun m j (F : zD) => fn_X12_strokes_198 v1 (fn_X12_strokes_174 v1 n) m s1 (nI i) (nI j) F) (fun j F => (∀ u, u < j → gI F 199 u = 0) ∧ kG bl H V (W * h) F ∧ (∀ j, j < W * h → bl j = true → gI F 198 (V j) = pe (fun x => x) ((kO bl H V i).2 (V j))) ∧ agL pRs D F) _ ?_ ?_ 0 zFU E (Nat.zero_le _) (zfu_gt (by omega)) ⟨fun u hu => absurd hu (Nat.not_lt_zero _), g2, g3, g5⟩
      · intro m j F hj ⟨k1, k2, k3, k4⟩ ih2
        show zok (fn_X12_strokes_198 v1 (fn_X12_strokes_174 v1 n) (m + 1) s1 (nI i) (nI j) F) _
        rw [fn_X12_strokes_198, if_neg (show ¬ (30 : Int32) ≤ nI j from nI_ge (b := 30) (by omega) (by omega)), zck_nI hj (by omega), nI_clamp (by omega), zlet_eq, nI_1]
        refine ih2 _ ⟨fun u hu => ?_, fun u hu => by rw [gI_na (by omega), gI_na (by omega)]; exact k2 u hu, fun u hu hb => by rw [gI_na (by omega)]; exact k3 u hu hb, agL_sI k4 (by unfold pRs; omega)⟩
        rw [gI_if]
        by_cases e : u = j
        · rw [if_pos e]
        · rw [if_neg e]; exact k1 u (by omega)
      · intro m F ⟨k1, k2, k3, k4⟩
        show zok (fn_X12_strokes_198 v1 (fn_X12_strokes_174 v1 n) (m + 1) s1 (nI i) (nI 30) F) _
        rw [fn_X12_strokes_198, if_pos (show (30 : Int32) ≤ nI 30 by decide)]
        unfold fn_X12_strokes_219
        have hk0 : kR bl H V (W * h) (fun _ => false, (kO bl H V i).2) F := ⟨k2, fun j hj hb => ⟨by have := hV j; exact k1 _ (by omega), k3 j hj hb⟩, g4⟩
        rcases Nat.lt_or_ge 30 31 with _ | _
        · refine (r_finds h14 h15 hc hW hh hbl hH hV 31 100 i _ F (by omega) (by omega) (by omega) ⟨i, by omega, q.1, q.2⟩ k4 hk0).bind fun x ⟨x1, x2, x3⟩ => ?_
          have e2 : kO bl H V (i + 1) = ((kO bl H V i).1 + (if (kf bl H V 31 i (fun _ => false, (kO bl H V i).2)).1 = true then 1 else 0), (kf bl H V 31 i (fun _ => false, (kO bl H V i).2)).2.2) := by rw [kO, if_pos q]
          have step : ∀ w, w = nI (kO bl H V (i + 1)).1 → zok (fn_X12_strokes_174 v1 n w (nI (i + 1)) x.2) _ := fun w hw => ih (w, x.2) ⟨hw, x2.1, fun j hj hb => by rw [e2]; exact (x2.2.1 j hj hb).2, by rw [e2]; exact x2.2.2, x3⟩
          rw [e2] at step
          rw [x1, g1, nI_1]
          generalize kf bl H V 31 i (fun _ => false, (kO bl H V i).2) = r at *
          cases q5 : r.1
          · rw [q5] at step
            rw [if_pos (show bI false = 0 from rfl), zlet_eq]
            exact step _ (by rw [Int32.add_zero]; rfl)
          · rw [q5] at step
            rw [if_neg (show ¬ bI true = 0 by decide), zlet_eq, nI_1]
            exact step _ rfl
        · omega
    · have e2 : kO bl H V (i + 1) = kO bl H V i := by rw [kO, if_neg q]
      have e3 : ¬ nz (bl i) (H i) = nI i := by
        intro e
        by_cases q1 : bl i = true
        · rw [nz_t q1, nEq _ _ (by omega) (by omega)] at e
          exact q ⟨q1, e⟩
        · rw [nz_f q1] at e
          exact (m1N _ (by omega)).mp e
      rw [if_neg e3]
      exact ih (s1, E) ⟨by rw [e2]; exact g1, g2, by rw [e2]; exact g3, by rw [e2]; exact g4, g5⟩
  · intro n ⟨s1, E⟩ ⟨g1, g2, g3, g4, g5⟩
    replace g5 : agL pRs D E := g5
    show zok (fn_X12_strokes_174 v1 (n + 1) s1 (nI (W * h)) E) _
    rw [fn_X12_strokes_174, r_cells (w := W) (k := h) (by rw [g5.1 _ _ (by unfold pRs; omega), h14]) (by rw [g5.1 _ _ (by unfold pRs; omega), h15]), Option.bind_some, if_pos (nI_le (Nat.le_refl _) (by omega)), zok_some]
    have := kO_white (H := H) (V := V) hbl (30 - W * h)
    rw [show W * h + (30 - W * h) = 30 by omega] at this
    exact ⟨by rw [this]; exact g1, g5⟩
end M85
