/-! THE MATHEMATICS: strokes, the class: rows and columns get numbers -/
def sr (bl : Nat → Bool) (H : Nat → Nat) (i : Nat) : Bool := bl i && decide (H i = i)
section M83
variable {D : zD} {P : Nat → Nat} {nc c ns d W h : Nat} {bl : Nat → Bool} {H V ρ κ : Nat → Nat}
theorem sr_hr {i : Nat} (hi : bl i = true) : sr bl (hr W bl) (hr W bl i) = true := by
  obtain ⟨h1, h2⟩ := hr_st (W := W) i hi
  unfold sr
  rw [h1, h2, decide_eq_true rfl]
  rfl
theorem sr_vr {i : Nat} (hi : bl i = true) : sr bl (vr W bl) (vr W bl i) = true := by
  obtain ⟨h1, h2⟩ := vr_st (W := W) i hi
  unfold sr
  rw [h1, h2, decide_eq_true rfl]
  rfl
theorem kN_of : kN bl (hr W bl) (vr W bl) (fb_ct (sr bl (hr W bl))) (fb_ct (sr bl (vr W bl))) := by
  refine ⟨fun i hi hb => ?_, fun i j hi hj h1 h2 => ⟨fun e => ?_, fun e => ?_⟩⟩
  · have a1 := hr_le (W := W) (bl := bl) i
    have a2 := vr_le (W := W) (bl := bl) i
    have a3 := fb_ct_le (sr bl (hr W bl)) (hr W bl i)
    have a4 := fb_ct_le (sr bl (vr W bl)) (vr W bl i)
    exact ⟨by omega, by omega, by omega, by omega⟩
  · exact fb_ct_kth_one (p := sr bl (hr W bl)) (sr_hr h1) (sr_hr h2) e
  · exact fb_ct_kth_one (p := sr bl (vr W bl)) (sr_vr h1) (sr_vr h2) e
/-- numbers given before cell i -/
def kI (bl : Nat → Bool) (H V : Nat → Nat) (D0 : zD) (i : Nat) (v2 v3 : Int32) (E : zD) : Prop :=
  v2 = nI (fb_ct (sr bl H) i) ∧ v3 = nI (fb_ct (sr bl V) i) ∧ (∀ j, j < i → bl j = true → gI E 8 j = nI (fb_ct (sr bl H) (H j)) ∧ gI E 9 j = nI (fb_ct (sr bl V) (V j))) ∧ ag pSt D0 E
theorem c_number {p : Int32} (hp : ∀ i, i < 30 → bt p i = bl i) (h0 : gI D 3 0 = nI W) (h1 : gI D 3 1 = nI h) (hW : 2 ≤ W ∧ W ≤ 6) (hh : h ≤ 5) : zok (fn_X0_numberRows 3 p D) fun E => (∀ j, j < W * h → bl j = true → gI E 8 j = nI (fb_ct (sr bl (hr W bl)) (hr W bl j)) ∧ gI E 9 j = nI (fb_ct (sr bl (vr W bl)) (vr W bl j))) ∧ ag pSt D E := by
  have h30 := wh_le hW.2 hh
  unfold fn_X0_numberRows
  refine z_inv h (fun n y (s : Int32 × Int32 × zD) => fn_X0_numberRows_7 3 p n s.1 s.2.1 (nI y) s.2.2) (fun y s => kI bl (hr W bl) (vr W bl) D (W * y) s.1 s.2.1 s.2.2) _ ?_ ?_ 0 zFU ((0 : Int32), (0 : Int32), D) (Nat.zero_le _) (zfu_gt (by omega)) ⟨rfl, rfl, fun j hj => absurd hj (by omega), ag.refl⟩
  · intro n y ⟨v2, v3, E⟩ hy hI ih
    show zok (fn_X0_numberRows_7 3 p (n + 1) v2 v3 (nI y) E) _
    have hI' : kI bl (hr W bl) (vr W bl) D (W * y + 0) v2 v3 E := hI
    rw [fn_X0_numberRows_7, hI'.2.2.2 _ _ (by unfold pSt; omega), h1, if_neg (nI_ge hy (by omega))]
    refine z_inv W (fun m x (s : Int32 × Int32 × zD) => fn_X0_numberRows_19 3 p (fn_X0_numberRows_7 3 p n) m s.1 s.2.1 (nI y) (nI x) s.2.2) (fun x s => kI bl (hr W bl) (vr W bl) D (W * y + x) s.1 s.2.1 s.2.2) _ ?_ ?_ 0 zFU (v2, v3, E) (Nat.zero_le _) (zfu_gt (by omega)) hI'
    · intro m x ⟨v2, v3, E⟩ hx ⟨g1, g2, g3, g4⟩ ih2
      replace g1 : v2 = nI (fb_ct (sr bl (hr W bl)) (W * y + x)) := g1
      replace g2 : v3 = nI (fb_ct (sr bl (vr W bl)) (W * y + x)) := g2
      replace g4 : ag pSt D E := g4
      show zok (fn_X0_numberRows_19 3 p (fn_X0_numberRows_7 3 p n) (m + 1) v2 v3 (nI y) (nI x) E) _
      have e0 : gI E 3 0 = nI W := by rw [g4 _ _ (by unfold pSt; omega), h0]
      have hyl : W * (y + 1) ≤ W * h := Nat.mul_le_mul_left _ hy
      rw [Nat.mul_add, Nat.mul_one] at hyl
      have hy0 : y = 0 ↔ W * y = 0 := by rw [Nat.mul_eq_zero]; omega
      have hWy : y ≠ 0 → W ≤ W * y := fun q => Nat.le_mul_of_pos_right _ (by omega)
      have hmod : (W * y + x) % W = x := by rw [Nat.mul_add_mod, Nat.mod_eq_of_lt hx]
      rw [fn_X0_numberRows_19, e0, if_neg (nI_ge hx (by omega)), pk_mul, nI_add, zlet_eq]
      have ih3 : ∀ v2 v3 E, kI bl (hr W bl) (vr W bl) D (W * y + x + 1) v2 v3 E → zok (fn_X0_numberRows_19 3 p (fn_X0_numberRows_7 3 p n) m v2 v3 (nI y) (nI (x + 1)) E) _ := fun v2 v3 E hE => ih2 (v2, v3, E) hE
      generalize hi : W * y + x = i at *
      have j0 := bt_0 p i (by omega)
      rw [hp i (by omega)] at j0
      have n1 := fb_ct_le (sr bl (hr W bl)) i
      have n2 := fb_ct_le (sr bl (vr W bl)) i
      by_cases q1 : bl i = true
      · rw [if_neg (fun e => by rw [j0.mp e] at q1; cases q1)]
        unfold fn_X0_numberRows_54
        rw [if_neg (by decide), if_neg (nI_pos (by omega)), if_pos (show nI i < (30 : Int32) from nI_lt (b := 30) (by omega) (by omega))]
        -- the column's number
        have col : ∀ v2' w E, v2' = nI (fb_ct (sr bl (hr W bl)) (i + 1)) → w = nI (fb_ct (sr bl (hr W bl)) (hr W bl i)) → ag pSt D E → (∀ j, j < i → bl j = true → gI E 8 j = nI (fb_ct (sr bl (hr W bl)) (hr W bl j)) ∧ gI E 9 j = nI (fb_ct (sr bl (vr W bl)) (vr W bl j))) → zok (fn_X0_numberRows_132 3 p (fn_X0_numberRows_19 3 p (fn_X0_numberRows_7 3 p n) m) v2' v3 (nI y) (nI x) (nI i) (3 + 5) (nI i) w E) (fun E => (∀ j, j < W * h → bl j = true → gI E 8 j = nI (fb_ct (sr bl (hr W bl)) (hr W bl j)) ∧ gI E 9 j = nI (fb_ct (sr bl (vr W bl)) (vr W bl j))) ∧ ag pSt D E) := by
          intro v2' w E hv hw hE hj
          unfold fn_X0_numberRows_132
          rw [zck_nI (by omega) (by omega), nI_clamp (by omega), zlet_eq]
          have hE2 : ag pSt D (sI E (3 + 5) i w) := hE.sI (by unfold pSt; omega)
          have e0' : gI (sI E (3 + 5) i w) 3 0 = nI W := by rw [hE2 _ _ (by unfold pSt; omega), h0]
          have fin : ∀ v3' u, v3' = nI (fb_ct (sr bl (vr W bl)) (i + 1)) → u = nI (fb_ct (sr bl (vr W bl)) (vr W bl i)) → kI bl (hr W bl) (vr W bl) D (i + 1) v2' v3' (sI (sI E (3 + 5) i w) (3 + 6) i u) := by
            intro v3' u h3 h4
            refine ⟨hv, h3, fun j hji hbj => ?_, hE2.sI (by unfold pSt; omega)⟩
            by_cases q : j = i
            · subst q
              exact ⟨by rw [gI_na (by omega), gI_eq, hw], by rw [gI_eq, h4]⟩
            · rw [gI_na (by omega), gI_nb q, gI_nb q, gI_na (by omega)]
              exact hj j (by omega) hbj
          have new : ¬ (0 < W ∧ W ≤ i ∧ bl (i - W) = true) → zok (fn_X0_numberRows_165 3 p (fn_X0_numberRows_19 3 p (fn_X0_numberRows_7 3 p n) m) v2' v3 (nI y) (nI x) (nI i) (sI E (3 + 5) i w)) (fun E => (∀ j, j < W * h → bl j = true → gI E 8 j = nI (fb_ct (sr bl (hr W bl)) (hr W bl j)) ∧ gI E 9 j = nI (fb_ct (sr bl (vr W bl)) (vr W bl j))) ∧ ag pSt D E) := by
            intro q
            have ev : vr W bl i = i := by rw [vr, dif_neg q]
            unfold fn_X0_numberRows_165 fn_X0_numberRows_166
            rw [if_pos rfl, zck_nI (by omega) (by omega), nI_clamp (by omega), zlet_eq, g2, nI_1, nI_1]
            refine ih3 _ _ _ (fin _ _ ?_ (by rw [ev]))
            rw [fb_ct_succ, if_pos (by unfold sr; rw [q1, ev, decide_eq_true rfl]; rfl)]
          by_cases r0 : y = 0
          · rw [if_pos (show nI y ≤ 0 by rw [r0]; decide)]
            have := hy0.mp r0
            exact new (by omega)
          · have := hWy r0
            rw [if_neg (show ¬ nI y ≤ 0 from fun e => r0 ((nLe0 _ (by omega)).mp e)), e0', if_neg (show ¬ nI i < nI W by rw [nLt _ _ (by omega) (by omega)]; omega), nSn _ _ (by omega)]
            have j1 := bt_0 p (i - W) (by omega)
            rw [hp (i - W) (by omega)] at j1
            by_cases q2 : bl (i - W) = true
            · rw [if_neg (fun e => by rw [j1.mp e] at q2; cases q2)]
              have ev : vr W bl i = vr W bl (i - W) := by rw [vr, dif_pos ⟨by omega, by omega, q2⟩]
              have ev2 := vr_le (W := W) (bl := bl) (i - W)
              unfold fn_X0_numberRows_166
              rw [if_neg (by decide), e0', nSn _ _ (by omega), zck_nI (by omega) (by omega), zck_nI (by omega) (by omega), nI_clamp (by omega), nI_clamp (by omega), zlet_eq, g2, nI_1]
              refine ih3 _ _ _ (fin _ _ ?_ (by rw [gI_na (by omega), ev]; exact (hj (i - W) (by omega) q2).2))
              rw [fb_ct_succ, if_neg (by unfold sr; rw [decide_eq_false (by omega), Bool.and_false]; decide), Nat.add_zero]
            · rw [if_pos (j1.mpr (by cases q : bl (i - W); rfl; exact absurd q q2))]
              exact new (fun r => q2 r.2.2)
        have newr : ¬ (0 < i % W ∧ 0 < i ∧ bl (i - 1) = true) → zok (fn_X0_numberRows_96 3 p (fn_X0_numberRows_19 3 p (fn_X0_numberRows_7 3 p n) m) v2 v3 (nI y) (nI x) (nI i) E) (fun E => (∀ j, j < W * h → bl j = true → gI E 8 j = nI (fb_ct (sr bl (hr W bl)) (hr W bl j)) ∧ gI E 9 j = nI (fb_ct (sr bl (vr W bl)) (vr W bl j))) ∧ ag pSt D E) := by
          intro q
          have ev : hr W bl i = i := by rw [hr, dif_neg q]
          unfold fn_X0_numberRows_96 fn_X0_numberRows_97
          rw [if_pos rfl]
          unfold fn_X0_numberRows_128
          refine col _ _ E ?_ (by rw [g1, ev]) g4 g3
          rw [g1, nI_1, fb_ct_succ, if_pos (by unfold sr; rw [q1, ev, decide_eq_true rfl]; rfl)]
        by_cases r0 : x = 0
        · rw [if_pos (show nI x ≤ 0 by rw [r0]; decide)]
          exact newr (by omega)
        · rw [if_neg (show ¬ nI x ≤ 0 from fun e => r0 ((nLe0 _ (by omega)).mp e)), nS1 _ (by omega)]
          have j1 := bt_0 p (i - 1) (by omega)
          rw [hp (i - 1) (by omega)] at j1
          by_cases q2 : bl (i - 1) = true
          · rw [if_neg (fun e => by rw [j1.mp e] at q2; cases q2)]
            have ev : hr W bl i = hr W bl (i - 1) := by rw [hr, dif_pos ⟨by omega, by omega, q2⟩]
            have ev2 := hr_le (W := W) (bl := bl) (i - 1)
            unfold fn_X0_numberRows_97
            rw [if_neg (by decide), if_neg (show ¬ nI i < 1 by rw [nLt1 _ (by omega)]; omega), nS1 _ (by omega), zck_nI (by omega) (by omega), nI_clamp (by omega)]
            refine col _ _ E ?_ (by rw [ev]; exact (g3 (i - 1) (by omega) q2).1) g4 g3
            rw [g1, fb_ct_succ, if_neg (by unfold sr; rw [decide_eq_false (by omega), Bool.and_false]; decide), Nat.add_zero]
          · rw [if_pos (j1.mpr (by cases q : bl (i - 1); rfl; exact absurd q q2))]
            exact newr (fun r => q2 r.2.2)
      · rw [if_pos (j0.mpr (by cases q : bl i; rfl; exact absurd q q1))]
        unfold fn_X0_numberRows_54
        rw [if_pos rfl, nI_1]
        have es : ∀ H : Nat → Nat, fb_ct (sr bl H) (i + 1) = fb_ct (sr bl H) i := fun H => by
          rw [fb_ct_succ, if_neg (by unfold sr; rw [Bool.and_eq_true]; exact fun r => q1 r.1), Nat.add_zero]
        refine ih3 _ _ _ ⟨by rw [es]; exact g1, by rw [es]; exact g2, fun j hj hbj => ?_, g4⟩
        by_cases q : j = i
        · subst q; exact absurd hbj q1
        · exact g3 j (by omega) hbj
    · intro m ⟨v2, v3, E⟩ hI2
      show zok (fn_X0_numberRows_19 3 p (fn_X0_numberRows_7 3 p n) (m + 1) v2 v3 (nI y) (nI W) E) _
      have g4 : ag pSt D E := hI2.2.2.2
      rw [fn_X0_numberRows_19, g4 _ _ (by unfold pSt; omega), h0, if_pos (nI_le (Nat.le_refl _) (by omega)), nI_1]
      exact ih (v2, v3, E) (by show kI bl (hr W bl) (vr W bl) D (W * (y + 1)) v2 v3 E; rw [Nat.mul_add, Nat.mul_one]; exact hI2)
  · intro n ⟨v2, v3, E⟩ ⟨g1, g2, g3, g4⟩
    show zok (fn_X0_numberRows_7 3 p (n + 1) v2 v3 (nI h) E) _
    replace g4 : ag pSt D E := g4
    rw [fn_X0_numberRows_7, g4 _ _ (by unfold pSt; omega), h1, if_pos (nI_le (Nat.le_refl _) (by omega)), zok_some]
    exact ⟨g3, g4⟩
end M83
