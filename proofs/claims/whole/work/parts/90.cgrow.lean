/-! THE MATHEMATICS: most signs: how the class grows a clique -/
section M90
variable {D : zD} {A : Nat → Nat → Bool}
theorem nI_m1s (t : Nat) : nI (t + 1) - 1 = nI t := nI_pred t
theorem c_grow (hs : ∀ u v, A u v = A v u) (hr : ∀ u, A u u = false) {lim : Nat} (hl32 : lim ≤ 33) : ∀ (f : Nat) (x : Int64) (dep b : Nat) (E : zD), lct x < f → dep + lct x ≤ 65 → b ≤ 65 → gI E 92 4 = nI b → gI E 92 5 = nI lim → (∀ k, CL A k (lb x) → dep + k ≤ lim) → (∀ v, lb x v = true → ∀ u, u < 64 → lb (gL E 95 v) u = A v u) → zok (fn_X2_growR f x (nI dep) E) fun F => ∃ b2, gI F 92 4 = nI b2 ∧ gQ A x dep b b2 ∧ agL (pG dep) E F
  | 0, x, dep, b, E => fun h => absurd h (Nat.not_lt_zero _)
  | f + 1, x, dep, b, E => fun hf hd hb h4 h5 hlim hrow => by
    have hdl : dep ≤ lim := hlim 0 trivial
    show zok (fn_X2_grow (fn_X2_growR f) x (nI dep) E) _
    unfold fn_X2_grow
    have hg0 : agL (pG dep) E (sI E 92 4 (nI (max b dep))) := agL_sI agL.refl (by unfold pG; omega)
    rw [h4, zmx_n _ _ (by omega) (by omega), zlet_eq, if_neg (nI_pos (by omega)), if_pos (show nI dep < (34 : Int32) from nI_lt (b := 34) (by omega) (by omega)), show nI dep * (64 : Int32) = nI (dep * 64) from pk_mul dep 64]
    refine (c_arrange hs hr (A := A) (x := x) (dep := dep) (D := sI E 92 4 (nI (max b dep))) (by omega) (fun v hv u hu => hrow v hv u hu)).bind fun q ⟨p, p1, p2, ⟨p3, p4⟩, p5, p6⟩ => ?_
    have hg1 : agL (pG dep) E q.2 := hg0.trans (p6.mono (by unfold pG pAr; intros; omega))
    have hb1 : gI q.2 92 4 = nI (max b dep) := by rw [p6.1 _ _ (by unfold pAr; omega), gI_eq]
    rw [zlet_eq, p2]
    generalize hb1' : max b dep = b1 at *
    refine z_mea (fun n (s : Int64 × Nat × zD) => fn_X2_grow_43 (fn_X2_growR f) x (nI dep) n s.1 (nI s.2.1 - 1) s.2.2) (fun s => s.2.1 ≤ p ∧ (∃ b2, gI s.2.2 92 4 = nI b2 ∧ b1 ≤ b2 ∧ b2 ≤ 65 ∧ (b2 = b1 ∨ ∃ k, CL A k (lb x) ∧ b2 = dep + k) ∧ (∀ k, CL A k (lb x) → dep + k ≤ b2 ∨ CL A k (lb s.1))) ∧ agL (pG dep) E s.2.2 ∧ (∀ j, j < p → gI s.2.2 96 (dep * 64 + j) = gI q.2 96 (dep * 64 + j)) ∧ (∀ u, lb s.1 u = true → lb x u = true) ∧ (∀ u, lb s.1 u = true → ∃ j, j < s.2.1 ∧ kx q.2 dep j % 64 = u)) (fun s => s.2.1) _ ?_ zFU (x, p, q.2) (by show p < zFU; unfold zFU; omega) ⟨Nat.le_refl _, ⟨b1, hb1, Nat.le_refl _, by omega, Or.inl rfl, fun k hk => Or.inr hk⟩, hg1, fun _ _ => rfl, fun u r => r, p5⟩
    intro n ⟨cur, t, F⟩ ⟨g1, ⟨b2, g2, g3, g4, g5, g6⟩, g7, g8, g9, g10⟩ ih
    replace g1 : t ≤ p := g1
    replace g2 : gI F 92 4 = nI b2 := g2
    replace g6 : ∀ k, CL A k (lb x) → dep + k ≤ b2 ∨ CL A k (lb cur) := g6
    replace g7 : agL (pG dep) E F := g7
    replace g8 : ∀ j, j < p → gI F 96 (dep * 64 + j) = gI q.2 96 (dep * 64 + j) := g8
    replace g9 : ∀ u, lb cur u = true → lb x u = true := g9
    replace g10 : ∀ u, lb cur u = true → ∃ j, j < t ∧ kx q.2 dep j % 64 = u := g10
    show zok (fn_X2_grow_43 (fn_X2_growR f) x (nI dep) (n + 1) cur (nI t - 1) F) _
    have fin : (∀ k, CL A k (lb cur) → dep + k ≤ b2) → zok (some F) fun F => ∃ b2, gI F 92 4 = nI b2 ∧ gQ A x dep b b2 ∧ agL (pG dep) E F := fun hk => zok_some.mpr ⟨b2, g2, ⟨by omega, by omega, fun k hk2 => by
      rcases g6 k hk2 with g | g
      · exact g
      · exact hk k g, by
      rcases g5 with g | g
      · rcases Nat.le_total dep b with o | o
        · exact Or.inl (by omega)
        · exact Or.inr ⟨0, trivial, by omega⟩
      · exact Or.inr g⟩, g7⟩
    rw [fn_X2_grow_43]
    cases t with
    | zero =>
      rw [if_pos (show nI 0 - 1 < 0 by decide)]
      refine fin fun k hk => ?_
      cases k with
      | zero => omega
      | succ k =>
        obtain ⟨v, hv, h, _⟩ := hk
        obtain ⟨j, j1, _⟩ := g10 v h
        exact absurd j1 (Nat.not_lt_zero _)
    | succ i =>
      obtain ⟨w1, w2⟩ := p3 i (by omega)
      have w3 := p4 i (by omega)
      have hv : kx q.2 dep i % 64 < 64 := Nat.mod_lt _ (by decide)
      have hx9 : gI F 96 (dep * 64 + i) = nI (kx q.2 dep i) := by rw [g8 i (by omega)]; unfold kx; rw [nI_un]
      rw [nI_m1s, if_neg (nI_pos (by omega)), if_neg (show ¬ (64 : Int32) ≤ nI i from nI_ge (b := 64) (by omega) (by omega)), show nI dep * (64 : Int32) = nI (dep * 64) from pk_mul dep 64, nI_add, zck_nI (by omega) (by omega), nI_clamp (by omega), hx9, g7.1 92 5 (by unfold pG; omega), h5, g2, zlet_eq]
      have jl := nLe lim b2 (by omega) (by omega)
      by_cases q1 : lim ≤ b2
      · rw [if_pos (jl.mpr q1)]
        refine fin fun k hk => ?_
        have := hlim k (CL_sub k (fun u _ => g9 u) hk)
        omega
      · rw [if_neg (fun r => q1 (jl.mp r)), n_shr6 (by omega), nI_add]
        have jb := nLt b2 (dep + kx q.2 dep i / 64) (by omega) (by omega)
        by_cases q2 : b2 < dep + kx q.2 dep i / 64
        · rw [if_pos (jb.mpr q2), n_and63, zlet_eq]
          generalize hvd : kx q.2 dep i % 64 = v at *
          have hset : ∀ u, u < 64 → lb (cur &&& gL F 95 v) u = (lb cur u && A v u) := fun u hu => by rw [l_and, g7.l, hrow v w2 u hu]
          have c5 : lct (cur &&& gL F 95 v) ≤ lct (x &&& (zlshl 1 (nI v) ^^^ -1)) := lct_sub fun u hu r => by
            rw [hset u hu, Bool.and_eq_true] at r
            have : ¬ u = v := fun e => by rw [e, hr] at r; cases r.2
            rw [l_clr x hv hu, g9 u r.1, decide_eq_false this]; rfl
          have c6 := l_clr_ct hv w2
          have cl1 : ∀ k, CL A k (lb (cur &&& gL F 95 v)) → CL A (k + 1) (lb x) := fun k hk => ⟨v, hv, w2, CL_sub k (fun u hu r => by
            rw [hset u hu, Bool.and_eq_true] at r
            show (lb x u && A v u) = true
            rw [g9 u r.1, r.2]; rfl) hk⟩
          rw [zck_nI hv (by omega), nI_clamp (by omega), nI_1]
          refine (c_grow hs hr hl32 f _ (dep + 1) b2 F (by omega) (by omega) g4 g2 (by rw [g7.1 92 5 (by unfold pG; omega), h5]) (fun k hk => by have := hlim (k + 1) (cl1 k hk); omega) (fun w hw u hu => ?_)).bind fun G ⟨b3, k1, k2, k3⟩ => ?_
          · have hw2 := hset w (lb_lt hw)
            rw [hw, eq_comm, Bool.and_eq_true] at hw2
            rw [g7.l]
            exact hrow w (g9 w hw2.1) u hu
          · have k4 := gQ_le hr k2 g4 (by omega)
            rw [zlet_eq, show nI i + (-1 : Int32) = nI i - 1 from (Int32.sub_eq_add_neg _ _).symm]
            refine ih (cur &&& (zlshl 1 (nI v) ^^^ -1), i, G) ⟨by show i ≤ p; omega, ⟨b3, k1, by have := k2.1; omega, k4, ?_, fun k hk => ?_⟩, g7.trans (k3.mono (by unfold pG; intros; omega)), fun j hj => ?_, fun u r => ?_, fun u r => ?_⟩ (by show i < i + 1; omega)
            · rcases k2.2.2.2 with e | ⟨k, e1, e2⟩
              · rw [e]; exact g5
              · exact Or.inr ⟨k + 1, cl1 k e1, by omega⟩
            · rcases g6 k hk with g | g
              · left; have := k2.1; omega
              · rcases CL_split hs hv k g with e | ⟨_, j, e1, e2⟩
                · right
                  exact CL_sub k (fun u hu r => by
                    show lb (cur &&& (zlshl 1 (nI v) ^^^ -1)) u = true
                    rw [l_clr cur hv hu]; exact r) e
                · left
                  have := k2.2.2.1 j (CL_sub j (fun u hu r => by rw [hset u hu]; exact r) e2)
                  omega
            · show gI G 96 (dep * 64 + j) = _
              rw [k3.1 _ _ (by unfold pG; omega)]
              exact g8 j hj
            · have hu := lb_lt r
              replace r : lb (cur &&& (zlshl 1 (nI v) ^^^ -1)) u = true := r
              rw [l_clr cur hv hu, Bool.and_eq_true] at r
              exact g9 u r.1
            · have hu := lb_lt r
              replace r : lb (cur &&& (zlshl 1 (nI v) ^^^ -1)) u = true := r
              rw [l_clr cur hv hu, Bool.and_eq_true, Bool.not_eq_true', decide_eq_false_iff_not] at r
              obtain ⟨j, j1, j2⟩ := g10 u r.1
              refine ⟨j, ?_, j2⟩
              show j < i
              rcases Nat.lt_or_eq_of_le (Nat.lt_succ_iff.mp j1) with g | g
              · exact g
              · rw [g, hvd] at j2
                exact absurd j2.symm r.2
        · rw [if_neg (fun r => q2 (jb.mp r))]
          refine fin fun k hk => ?_
          have := w3 (lb cur) (fun u _ r => g10 u r) k hk
          omega
end M90
