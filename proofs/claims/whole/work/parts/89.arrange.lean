/-! THE MATHEMATICS: most signs: how the class arranges and grows a clique -/
def pG (dep a b : Nat) : Prop := ¬ (a = 92 ∧ b = 4) ∧ ¬ (a = 96 ∧ dep * 64 ≤ b)
def pAr (dep a b : Nat) : Prop := ¬ (a = 96 ∧ dep * 64 ≤ b)
def kx (E : zD) (dep i : Nat) : Nat := un (gI E 96 (dep * 64 + i))
section M89
variable {D : zD} {A : Nat → Nat → Bool}
theorem BD_cls (hs : ∀ u v, A u v = A v u) {K : Nat → Nat} {p0 p q : Nat} (h0 : ∀ S : Nat → Bool, (∀ u, u < 64 → S u = true → ∃ j, j < p0 ∧ K j = u) → BD A q S) (hi : ∀ i j, p0 ≤ i → i < p → p0 ≤ j → j < p → A (K i) (K j) = false) : ∀ S : Nat → Bool, (∀ u, u < 64 → S u = true → ∃ j, j < p ∧ K j = u) → BD A (q + 1) S := by
  classical
  intro S hS
  refine BD_add (T := fun u => S u && !decide (∃ j, p0 ≤ j ∧ j < p ∧ K j = u)) (I := fun u => decide (∃ j, p0 ≤ j ∧ j < p ∧ K j = u)) (h0 _ fun u hu r => ?_) (fun u v _ _ r1 r2 => ?_) (fun u hu r => ?_)
  · rw [Bool.and_eq_true, Bool.not_eq_true', decide_eq_false_iff_not] at r
    obtain ⟨j, j1, j2⟩ := hS u hu r.1
    refine ⟨j, ?_, j2⟩
    rcases Nat.lt_or_ge j p0 with g | g
    · exact g
    · exact absurd ⟨j, g, j1, j2⟩ r.2
  · rw [decide_eq_true_eq] at r1 r2
    obtain ⟨i, i1, i2, rfl⟩ := r1
    obtain ⟨j, j1, j2, rfl⟩ := r2
    exact hi i j i1 i2 j1 j2
  · by_cases g : ∃ j, p0 ≤ j ∧ j < p ∧ K j = u
    · exact Or.inr (decide_eq_true g)
    · left
      show (S u && !decide (∃ j, p0 ≤ j ∧ j < p ∧ K j = u)) = true
      rw [r, decide_eq_false g]; rfl
/-- what stands in the row of depth dep -/
def arr (A : Nat → Nat → Bool) (x : Int64) (dep : Nat) (E : zD) (p : Nat) : Prop :=
  (∀ i, i < p → kx E dep i < 8192 ∧ lb x (kx E dep i % 64) = true) ∧
  (∀ i, i < p → ∀ S : Nat → Bool, (∀ u, u < 64 → S u = true → ∃ j, j < i + 1 ∧ kx E dep j % 64 = u) → BD A (kx E dep i / 64) S)
theorem kx_eq {E : zD} {dep p n : Nat} (hn : n < 8192) : kx (sI E 96 (dep * 64 + p) (nI n)) dep p = n := by
  unfold kx
  rw [gI_eq, un_nI (by omega)]
theorem kx_ne {E : zD} {dep p i n : Nat} (hi : i ≠ p) : kx (sI E 96 (dep * 64 + p) (nI n)) dep i = kx E dep i := by
  unfold kx
  rw [gI_nb (by omega)]
theorem c_arrange (hs : ∀ u v, A u v = A v u) (hr : ∀ u, A u u = false) {x : Int64} {dep : Nat} (hd : dep ≤ 33) (hrow : ∀ v, lb x v = true → ∀ u, u < 64 → lb (gL D 95 v) u = A v u) : zok (fn_X2_arrange x (nI (dep * 64)) D) fun q => ∃ p, p ≤ 64 ∧ q.1 = nI p ∧ arr A x dep q.2 p ∧ (∀ u, lb x u = true → ∃ j, j < p ∧ kx q.2 dep j % 64 = u) ∧ agL (pAr dep) D q.2 := by
  unfold fn_X2_arrange
  have hlx := lct_le x
  refine z_mea (fun n (s : Nat × Int64 × Nat × zD) => fn_X2_arrange_9 x (nI (dep * 64)) n (nI s.1) s.2.1 (nI (s.2.2.1 + 1)) s.2.2.2) (fun s => s.1 + lct s.2.1 = lct x ∧ s.2.2.1 + lct s.2.1 ≤ 64 ∧ (∀ u, lb s.2.1 u = true → lb x u = true) ∧ arr A x dep s.2.2.2 s.1 ∧ (∀ u, lb x u = true → lb s.2.1 u = true ∨ ∃ j, j < s.1 ∧ kx s.2.2.2 dep j % 64 = u) ∧ (∀ S : Nat → Bool, (∀ u, u < 64 → S u = true → ∃ j, j < s.1 ∧ kx s.2.2.2 dep j % 64 = u) → BD A s.2.2.1 S) ∧ agL (pAr dep) D s.2.2.2) (fun s => lct s.2.1) _ ?_ zFU (0, x, 0, D) (by show lct x < zFU; unfold zFU; omega) ⟨by show 0 + lct x = lct x; omega, by show 0 + lct x ≤ 64; omega, fun u r => r, ⟨fun i hi => absurd hi (Nat.not_lt_zero _), fun i hi => absurd hi (Nat.not_lt_zero _)⟩, fun u r => Or.inl r, fun S hS k hk => ?_, agL.refl⟩
  · intro n ⟨p, rest, q, E⟩ ⟨g1, g2, g3, g4, g5, g6, g7⟩ ih
    replace g1 : p + lct rest = lct x := g1
    replace g2 : q + lct rest ≤ 64 := g2
    replace g3 : ∀ u, lb rest u = true → lb x u = true := g3
    replace g4 : arr A x dep E p := g4
    replace g5 : ∀ u, lb x u = true → lb rest u = true ∨ ∃ j, j < p ∧ kx E dep j % 64 = u := g5
    replace g6 : ∀ S : Nat → Bool, (∀ u, u < 64 → S u = true → ∃ j, j < p ∧ kx E dep j % 64 = u) → BD A q S := g6
    replace g7 : agL (pAr dep) D E := g7
    show zok (fn_X2_arrange_9 x (nI (dep * 64)) (n + 1) (nI p) rest (nI (q + 1)) E) _
    have jj : (64 : Int32) < nI (q + 1) ↔ 64 < q + 1 := nLt 64 (q + 1) (by omega) (by omega)
    have fin : rest = 0 → zok (some ((nI p, E) : Int32 × zD)) fun q => ∃ p, p ≤ 64 ∧ q.1 = nI p ∧ arr A x dep q.2 p ∧ (∀ u, lb x u = true → ∃ j, j < p ∧ kx q.2 dep j % 64 = u) ∧ agL (pAr dep) D q.2 := fun q0 => zok_some.mpr ⟨p, by omega, rfl, g4, fun u r => by
      rcases g5 u r with e | e
      · rw [q0, l_0] at e; cases e
      · exact e, g7⟩
    rw [fn_X2_arrange_9]
    by_cases q00 : 64 < q + 1
    · rw [if_pos (jj.mpr q00)]
      refine fin (l_ext fun u hu => ?_)
      have : fb_ct (lb rest) 64 = 0 := by unfold lct at g2; omega
      rw [l_0]
      exact fb_ct_zero.mp this u hu
    · rw [if_neg (fun r => q00 (jj.mp r))]
      by_cases q0 : rest = 0
      · rw [if_pos (lg_iff.mpr q0)]
        exact fin q0
      · rw [if_neg (fun r => q0 (lg_iff.mp r))]
        refine z_mea (fun m (s : Nat × Int64 × Int64 × Nat × zD) => fn_X2_arrange_30 x (nI (dep * 64)) (fn_X2_arrange_9 x (nI (dep * 64)) n) m (nI s.1) s.2.1 (nI (q + 1)) s.2.2.1 (nI s.2.2.2.1) s.2.2.2.2) (fun s => p ≤ s.1 ∧ s.1 + lct s.2.1 = lct x ∧ (∀ u, lb s.2.1 u = true → lb x u = true) ∧ (∀ u, lb s.2.2.1 u = true → lb s.2.1 u = true) ∧ s.2.2.2.1 + lct s.2.2.1 ≤ 64 ∧ ((s.2.1 = rest ∧ s.2.2.1 = rest) ∨ lct s.2.1 < lct rest) ∧ arr A x dep s.2.2.2.2 s.1 ∧ (∀ u, lb x u = true → lb s.2.1 u = true ∨ ∃ j, j < s.1 ∧ kx s.2.2.2.2 dep j % 64 = u) ∧ (∀ j, j < p → kx s.2.2.2.2 dep j = kx E dep j) ∧ (∀ i j, p ≤ i → i < s.1 → p ≤ j → j < s.1 → A (kx s.2.2.2.2 dep i % 64) (kx s.2.2.2.2 dep j % 64) = false) ∧ (∀ u j, lb s.2.2.1 u = true → p ≤ j → j < s.1 → A u (kx s.2.2.2.2 dep j % 64) = false) ∧ agL (pAr dep) D s.2.2.2.2) (fun s => lct s.2.2.1) _ ?_ zFU (p, rest, rest, 0, E) (by have := lct_le rest; show lct rest < zFU; unfold zFU; omega) ⟨Nat.le_refl _, g1, g3, fun u r => r, by have := lct_le rest; show 0 + lct rest ≤ 64; omega, Or.inl ⟨rfl, rfl⟩, g4, g5, fun _ _ => rfl, fun i j h1 h2 => absurd h2 (by show ¬ i < p; omega), fun u j _ h1 h2 => absurd h2 (by show ¬ j < p; omega), g7⟩
        intro m ⟨p2, rest2, av, cnt, F⟩ ⟨k1, k2, k3, k4, k5, k6, k7, k8, k9, k10, k11, k12⟩ ih2
        replace k1 : p ≤ p2 := k1
        replace k2 : p2 + lct rest2 = lct x := k2
        replace k3 : ∀ u, lb rest2 u = true → lb x u = true := k3
        replace k4 : ∀ u, lb av u = true → lb rest2 u = true := k4
        replace k5 : cnt + lct av ≤ 64 := k5
        replace k6 : (rest2 = rest ∧ av = rest) ∨ lct rest2 < lct rest := k6
        replace k7 : arr A x dep F p2 := k7
        replace k8 : ∀ u, lb x u = true → lb rest2 u = true ∨ ∃ j, j < p2 ∧ kx F dep j % 64 = u := k8
        replace k9 : ∀ j, j < p → kx F dep j = kx E dep j := k9
        replace k10 : ∀ i j, p ≤ i → i < p2 → p ≤ j → j < p2 → A (kx F dep i % 64) (kx F dep j % 64) = false := k10
        replace k11 : ∀ u j, lb av u = true → p ≤ j → j < p2 → A u (kx F dep j % 64) = false := k11
        replace k12 : agL (pAr dep) D F := k12
        have h0F : ∀ S : Nat → Bool, (∀ u, u < 64 → S u = true → ∃ j, j < p ∧ kx F dep j % 64 = u) → BD A q S := fun S hS => g6 S fun u hu r => by
          obtain ⟨j, j1, j2⟩ := hS u hu r
          exact ⟨j, j1, by rw [← k9 j j1]; exact j2⟩
        show zok (fn_X2_arrange_30 x (nI (dep * 64)) (fn_X2_arrange_9 x (nI (dep * 64)) n) (m + 1) (nI p2) rest2 (nI (q + 1)) av (nI cnt) F) _
        have nxt : av = 0 → zok (fn_X2_arrange_9 x (nI (dep * 64)) n (nI p2) rest2 (nI (q + 1) + 1) F) fun q => ∃ p, p ≤ 64 ∧ q.1 = nI p ∧ arr A x dep q.2 p ∧ (∀ u, lb x u = true → ∃ j, j < p ∧ kx q.2 dep j % 64 = u) ∧ agL (pAr dep) D q.2 := by
          intro q1
          have k6' : lct rest2 < lct rest := by
            rcases k6 with ⟨_, e⟩ | e
            · exact absurd (e.symm.trans q1) q0
            · exact e
          rw [nI_1]
          exact ih (p2, rest2, q + 1, F) ⟨k2, by show q + 1 + lct rest2 ≤ 64; omega, k3, k7, k8, BD_cls hs h0F k10, k12⟩ k6'
        have jc : (64 : Int32) ≤ nI cnt ↔ 64 ≤ cnt := nLe 64 cnt (by omega) (by omega)
        rw [fn_X2_arrange_30]
        by_cases qc : 64 ≤ cnt
        · rw [if_pos (jc.mpr qc)]
          refine nxt (l_ext fun u hu => ?_)
          have : fb_ct (lb av) 64 = 0 := by unfold lct at k5; omega
          rw [l_0]
          exact fb_ct_zero.mp this u hu
        · rw [if_neg (fun r => qc (jc.mp r))]
          by_cases q1 : av = 0
          · rw [if_pos (lg_iff.mpr q1)]
            exact nxt q1
          · obtain ⟨v, hv, v1, v2, _⟩ := l_low q1
            have hv3 := k4 v v1
            have hvx := k3 v hv3
            have c3 := l_clr_ct hv v1
            have c4 := l_clr_ct hv hv3
            have c0 := lct_le rest2
            have e63 : nI v &&& (63 : Int32) = nI v := by rw [n_and63, Nat.mod_eq_of_lt hv]
            rw [if_neg (fun r => q1 (lg_iff.mp r)), v2, Option.bind_some, zlet_eq, e63, zck_nI hv (by omega), nI_clamp (by omega), zlet_eq, zlet_eq, nI_add, zlet_eq, if_neg (nI_pos (by omega)), if_neg (show ¬ Int32.ofNat 2176 ≤ nI (dep * 64 + p2) from nI_ge (b := 2176) (by omega) (by omega)), zck_nI (by omega) (by omega), nI_clamp (by omega), show (64 : Int32) * nI (q + 1) = nI (64 * (q + 1)) from pk_mul 64 _, nI_add, zlet_eq, nI_1, nI_1]
            have hav : ∀ u, lb (av &&& ((zlshl 1 (nI v) ^^^ -1) &&& (gL F 95 v ^^^ -1))) u = true → lb av u = true ∧ u ≠ v ∧ A v u = false := fun u r => by
              have hu := lb_lt r
              rw [l_and, l_and, l_not _ hu, l_bit v hv u hu, l_not _ hu, k12.l, hrow v hvx u hu, Bool.and_eq_true, Bool.and_eq_true, Bool.not_eq_true', Bool.not_eq_true', decide_eq_false_iff_not] at r
              exact ⟨r.1, r.2.1, r.2.2⟩
            have c5 : lct (av &&& ((zlshl 1 (nI v) ^^^ -1) &&& (gL F 95 v ^^^ -1))) ≤ lct (av &&& (zlshl 1 (nI v) ^^^ -1)) := lct_sub fun u hu r => by
              have := hav u r
              rw [l_clr av hv hu, this.1, decide_eq_false this.2.1]; rfl
            have c6 : lct rest2 ≤ lct rest := by
              rcases k6 with ⟨e, _⟩ | e
              · rw [e]; exact Nat.le_refl _
              · omega
            have w8 : 64 * (q + 1) + v < 8192 := by omega
            have y1 : (64 * (q + 1) + v) % 64 = v := by omega
            have y2 : (64 * (q + 1) + v) / 64 = q + 1 := by omega
            have z1 := kx_eq (E := F) (dep := dep) (p := p2) w8
            have z2 := fun i (hi : i ≠ p2) => kx_ne (E := F) (dep := dep) (n := 64 * (q + 1) + v) hi
            have a12 : agL (pAr dep) D (sI F 96 (dep * 64 + p2) (nI (64 * (q + 1) + v))) := agL_sI k12 (by unfold pAr; omega)
            generalize sI F 96 (dep * 64 + p2) (nI (64 * (q + 1) + v)) = G at z1 z2 a12 ⊢
            have n10 : ∀ i j, p ≤ i → i < p2 + 1 → p ≤ j → j < p2 + 1 → A (kx G dep i % 64) (kx G dep j % 64) = false := fun i j i1 i2 j1 j2 => by
              by_cases qi : i = p2
              · by_cases qj : j = p2
                · rw [qi, qj]; exact hr _
                · rw [qi, z1, y1, z2 j qj]; exact k11 v j v1 j1 (by omega)
              · by_cases qj : j = p2
                · rw [qj, z1, y1, z2 i qi, hs]; exact k11 v i v1 i1 (by omega)
                · rw [z2 i qi, z2 j qj]; exact k10 i j i1 (by omega) j1 (by omega)
            have h0G : ∀ S : Nat → Bool, (∀ u, u < 64 → S u = true → ∃ j, j < p ∧ kx G dep j % 64 = u) → BD A q S := fun S hS => h0F S fun u hu r => by
              obtain ⟨j, j1, j2⟩ := hS u hu r
              exact ⟨j, j1, by rw [← z2 j (by omega)]; exact j2⟩
            refine ih2 (p2 + 1, rest2 &&& (zlshl 1 (nI v) ^^^ -1), _, cnt + 1, G) ⟨by show p ≤ p2 + 1; omega, by show p2 + 1 + lct (rest2 &&& (zlshl 1 (nI v) ^^^ -1)) = lct x; omega, fun u r => ?_, fun u r => ?_, by show cnt + 1 + lct (av &&& ((zlshl 1 (nI v) ^^^ -1) &&& (gL F 95 v ^^^ -1))) ≤ 64; omega, Or.inr (by show lct (rest2 &&& (zlshl 1 (nI v) ^^^ -1)) < lct rest; omega), ⟨fun i hi => ?_, fun i hi S hS => ?_⟩, fun u r => ?_, fun j hj => by rw [z2 j (by omega)]; exact k9 j hj, n10, fun u j r j1 j2 => ?_, a12⟩ (by show lct (av &&& ((zlshl 1 (nI v) ^^^ -1) &&& (gL F 95 v ^^^ -1))) < lct av; omega)
            · have hu := lb_lt r
              replace r : lb (rest2 &&& (zlshl 1 (nI v) ^^^ -1)) u = true := r
              rw [l_clr rest2 hv hu, Bool.and_eq_true] at r
              exact k3 u r.1
            · have := hav u r
              show lb (rest2 &&& (zlshl 1 (nI v) ^^^ -1)) u = true
              rw [l_clr rest2 hv (lb_lt r), k4 u this.1, decide_eq_false this.2.1]; rfl
            · replace hi : i < p2 + 1 := hi
              by_cases qi : i = p2
              · show kx G dep i < 8192 ∧ lb x (kx G dep i % 64) = true
                rw [qi, z1, y1]; exact ⟨w8, hvx⟩
              · show kx G dep i < 8192 ∧ lb x (kx G dep i % 64) = true
                rw [z2 i qi]; exact k7.1 i (by omega)
            · replace hi : i < p2 + 1 := hi
              show BD A (kx G dep i / 64) S
              by_cases qi : i = p2
              · rw [qi, z1, y2]
                rw [qi] at hS
                exact BD_cls hs h0G n10 S hS
              · rw [z2 i qi]
                refine k7.2 i (by omega) S fun u hu r => ?_
                obtain ⟨j, j1, j2⟩ := hS u hu r
                exact ⟨j, j1, by rw [← z2 j (by omega)]; exact j2⟩
            · show lb (rest2 &&& (zlshl 1 (nI v) ^^^ -1)) u = true ∨ ∃ j, j < p2 + 1 ∧ kx G dep j % 64 = u
              rcases k8 u r with e | ⟨j, j1, j2⟩
              · by_cases quv : u = v
                · exact Or.inr ⟨p2, by omega, by rw [z1, y1, quv]⟩
                · left
                  rw [l_clr rest2 hv (lb_lt e), e, decide_eq_false quv]; rfl
              · exact Or.inr ⟨j, by omega, by rw [z2 j (by omega)]; exact j2⟩
            · replace j2 : j < p2 + 1 := j2
              have := hav u r
              show A u (kx G dep j % 64) = false
              by_cases qj : j = p2
              · rw [qj, z1, y1, hs]; exact this.2.2
              · rw [z2 j qj]; exact k11 u j this.1 j1 (by omega)
  · cases k with
    | zero => exact Nat.le_refl _
    | succ k =>
      obtain ⟨v, hv, h, _⟩ := hk
      obtain ⟨j, j1, _⟩ := hS v hv h
      exact absurd j1 (Nat.not_lt_zero _)
end M89
