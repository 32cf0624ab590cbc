/-! THE MATHEMATICS: most signs: how the reference grows a clique -/
def p53 (a b : Nat) : Prop := ¬ (a = 102 ∧ b = 53)
section M88
variable {D : zD} {A : Nat → Nat → Bool}
theorem l_clr (x : Int64) {v u : Nat} (hv : v < 64) (hu : u < 64) : lb (x &&& (zlshl 1 (nI v) ^^^ -1)) u = (lb x u && !decide (u = v)) := by
  rw [l_and, l_not _ hu, l_bit v hv u hu]
theorem l_clr_ct {x : Int64} {v : Nat} (hv : v < 64) (h : lb x v = true) : lct (x &&& (zlshl 1 (nI v) ^^^ -1)) + 1 = lct x := by
  unfold lct
  have h2 := fb_ct_upd (lb x) false (i := v) (n := 64) hv
  rw [h, if_pos rfl, if_neg (by decide)] at h2
  replace h2 : fb_ct (fun k => if k = v then false else lb x k) 64 + 1 = fb_ct (lb x) 64 := h2
  rw [← h2]
  congr 1
  refine fb_ct_cong fun u hu => ?_
  rw [l_clr x hv hu]
  by_cases q : u = v
  · rw [if_pos q, decide_eq_true q]; cases lb x u <;> rfl
  · rw [if_neg q, decide_eq_false q]; cases lb x u <;> rfl
theorem lct_sub {x y : Int64} (h : ∀ u, u < 64 → lb x u = true → lb y u = true) : lct x ≤ lct y := fb_ct_sub h
theorem lct_le (x : Int64) : lct x ≤ 64 := fb_ct_le _ _
theorem lb_lt {x : Int64} {u : Nat} (h : lb x u = true) : u < 64 := by
  rcases Nat.lt_or_ge u 64 with g | g
  · exact g
  · rw [l_big g] at h; cases h
def gQ (A : Nat → Nat → Bool) (x : Int64) (dep b : Nat) (b2 : Nat) : Prop :=
  b ≤ b2 ∧ dep ≤ b2 ∧ (∀ k, CL A k (lb x) → dep + k ≤ b2) ∧ (b2 = b ∨ ∃ k, CL A k (lb x) ∧ b2 = dep + k)
theorem gQ_le {x : Int64} {dep b b2 : Nat} (hr : ∀ u, A u u = false) (h : gQ A x dep b b2) (hb : b ≤ 65) (hd : dep + lct x ≤ 65) : b2 ≤ 65 := by
  rcases h.2.2.2 with g | ⟨k, g1, g2⟩
  · omega
  · have := CL_card hr k g1
    unfold lct at hd
    omega
theorem r_grows (hs : ∀ u v, A u v = A v u) (hr : ∀ u, A u u = false) : ∀ (f : Nat) (x : Int64) (dep b : Nat) (E : zD), lct x < f → dep + lct x ≤ 65 → b ≤ 65 → gI E 102 53 = nI b → (∀ v, lb x v = true → ∀ u, u < 64 → lb (gL E 202 v) u = A v u) → zok (fn_X12_growsR f x (nI dep) E) fun F => ∃ b2, gI F 102 53 = nI b2 ∧ gQ A x dep b b2 ∧ agL p53 E F
  | 0, x, dep, b, E => fun h => absurd h (Nat.not_lt_zero _)
  | f + 1, x, dep, b, E => fun hf hd hb h53 hrow => by
    show zok (fn_X12_grows (fn_X12_growsR f) x (nI dep) E) _
    have mid : ∀ E1 b1, gI E1 102 53 = nI b1 → b ≤ b1 → dep ≤ b1 → b1 ≤ 65 → (b1 = b ∨ b1 = dep) → agL p53 E E1 → zok (fn_X12_grows_22 (fn_X12_growsR f) x (nI dep) zFU x 0 (nI 0) E1) fun F => ∃ b2, gI F 102 53 = nI b2 ∧ gQ A x dep b b2 ∧ agL p53 E F := by
      intro E1 b1 hb1 hbb hdb h65 hor hE1
      have row1 : ∀ F, agL p53 E F → ∀ v, lb x v = true → ∀ u, u < 64 → lb (gL F 202 v) u = A v u := fun F hF v hv u hu => by rw [hF.l]; exact hrow v hv u hu
      -- the kept ones, one after another
      have lst : ∀ kept, (∀ u, lb kept u = true → lb x u = true) → BD A (b1 - dep) (fun u => lb x u && !lb kept u) → zok (fn_X12_grows_117 (fn_X12_growsR f) x (nI dep) zFU kept x E1) fun F => ∃ b2, gI F 102 53 = nI b2 ∧ gQ A x dep b b2 ∧ agL p53 E F := by
        intro kept0 hk0 hBD
        refine z_mea (fun n (s : Int64 × Int64 × zD) => fn_X12_grows_117 (fn_X12_growsR f) x (nI dep) n s.1 s.2.1 s.2.2) (fun s => ∃ b2, gI s.2.2 102 53 = nI b2 ∧ b1 ≤ b2 ∧ b2 ≤ 65 ∧ (b2 = b1 ∨ ∃ k, CL A k (lb x) ∧ b2 = dep + k) ∧ agL p53 E s.2.2 ∧ (∀ u, lb s.1 u = true → lb s.2.1 u = true) ∧ (∀ u, lb s.2.1 u = true → lb x u = true) ∧ (∀ u, u < 64 → lb s.2.1 u = true → lb s.1 u = true ∨ lb kept0 u = false) ∧ (∀ k, CL A k (lb x) → dep + k ≤ b2 ∨ CL A k (lb s.2.1))) (fun s => lct s.1) _ ?_ zFU (kept0, x, E1) (by have := lct_le kept0; show lct kept0 < zFU; unfold zFU; omega) ⟨b1, hb1, Nat.le_refl _, h65, Or.inl rfl, hE1, hk0, fun u h => h, fun u _ _ => by cases q : lb kept0 u; exact Or.inr rfl; exact Or.inl rfl, fun k hk => Or.inr hk⟩
        intro n ⟨kept, cur, F⟩ ⟨b2, g1, g2, g3, g4, g5, g6, g7, g8, g9⟩ ih
        show zok (fn_X12_grows_117 (fn_X12_growsR f) x (nI dep) (n + 1) kept cur F) _
        replace g1 : gI F 102 53 = nI b2 := g1
        replace g6 : ∀ u, lb kept u = true → lb cur u = true := g6
        replace g7 : ∀ u, lb cur u = true → lb x u = true := g7
        replace g8 : ∀ u, u < 64 → lb cur u = true → lb kept u = true ∨ lb kept0 u = false := g8
        replace g9 : ∀ k, CL A k (lb x) → dep + k ≤ b2 ∨ CL A k (lb cur) := g9
        have fin : (∀ k, CL A k (lb cur) → dep + k ≤ b2) → ∃ b2, gI F 102 53 = nI b2 ∧ gQ A x dep b b2 ∧ agL p53 E F := fun hk => ⟨b2, g1, ⟨by omega, by omega, fun k hk2 => by
          rcases g9 k hk2 with g | g
          · exact g
          · exact hk k g, by
          rcases g4 with g | g
          · rcases hor with o | o
            · exact Or.inl (by omega)
            · exact Or.inr ⟨0, trivial, by omega⟩
          · exact Or.inr g⟩, g5⟩
        rw [fn_X12_grows_117]
        by_cases q : kept = 0
        · rw [if_pos (lg_iff.mpr q), zok_some]
          refine fin fun k hk => ?_
          have := hBD k (CL_sub k (fun u hu r => by
            rw [Bool.and_eq_true]
            refine ⟨g7 u r, ?_⟩
            rcases g8 u hu r with g | g
            · rw [q, l_0] at g; cases g
            · rw [g]; rfl) hk)
          omega
        · obtain ⟨v, hv, v1, _, v2⟩ := l_low q
          have hcv := g6 v v1
          have c1 := lct_sub (fun u _ => g7 u)
          have c2 := l_clr_ct hv hcv
          have c3 := l_clr_ct hv v1
          have c4 := lct_le cur
          have jj := nLt b2 (dep + lct cur) (by omega) (by omega)
          rw [if_neg (fun r => q (lg_iff.mp r)), v2, Option.bind_some, zlet_eq, l_ones, Option.bind_some, g1, nI_add]
          by_cases q2 : b2 < dep + lct cur
          · rw [if_pos (jj.mpr q2), zlet_eq, zck_nI hv (by omega), nI_clamp (by omega), nI_1]
            have hset : ∀ u, u < 64 → lb (cur &&& (zlshl 1 (nI v) ^^^ -1) &&& gL F 202 v) u = (lb cur u && !decide (u = v) && A v u) := fun u hu => by
              rw [l_and, l_clr cur hv hu, row1 F g5 v (g7 v hcv) u hu]
            have c5 : lct (cur &&& (zlshl 1 (nI v) ^^^ -1) &&& gL F 202 v) ≤ lct (cur &&& (zlshl 1 (nI v) ^^^ -1)) := lct_sub fun u _ r => by
              rw [l_and, Bool.and_eq_true] at r
              exact r.1
            refine (r_grows hs hr f _ (dep + 1) b2 F (by omega) (by omega) g3 g1 (fun w hw u hu => ?_)).bind fun G ⟨b3, k1, k2, k3⟩ => ?_
            · have hw2 := hset w (lb_lt hw)
              rw [hw, eq_comm, Bool.and_eq_true, Bool.and_eq_true] at hw2
              exact row1 F g5 w (g7 w hw2.1.1) u hu
            · have k4 := gQ_le hr k2 g3 (by omega)
              refine ih (kept &&& (zlshl 1 (nI v) ^^^ -1), cur &&& (zlshl 1 (nI v) ^^^ -1), G) ⟨b3, k1, by have := k2.1; omega, k4, ?_, g5.trans k3, fun u r => ?_, fun u r => ?_, fun u hu r => ?_, fun k hk => ?_⟩ (by show lct (kept &&& (zlshl 1 (nI v) ^^^ -1)) < lct kept; omega)
              · rcases k2.2.2.2 with e | ⟨k, e1, e2⟩
                · rw [e]; exact g4
                · refine Or.inr ⟨k + 1, ⟨v, hv, g7 v hcv, CL_sub k (fun u hu r => ?_) e1⟩, by omega⟩
                  rw [hset u hu] at r
                  rw [Bool.and_eq_true, Bool.and_eq_true] at r
                  show (lb x u && A v u) = true
                  rw [g7 u r.1.1, r.2]; rfl
              · have hu := lb_lt r
                rw [l_clr kept hv hu, Bool.and_eq_true] at r
                show lb (cur &&& (zlshl 1 (nI v) ^^^ -1)) u = true
                rw [l_clr cur hv hu, g6 u r.1, r.2]; rfl
              · have hu := lb_lt r
                rw [l_clr cur hv hu, Bool.and_eq_true] at r
                exact g7 u r.1
              · rw [l_clr cur hv hu, Bool.and_eq_true] at r
                rcases g8 u hu r.1 with g | g
                · left
                  show lb (kept &&& (zlshl 1 (nI v) ^^^ -1)) u = true
                  rw [l_clr kept hv hu, g, r.2]; rfl
                · exact Or.inr g
              · rcases g9 k hk with g | g
                · left; have := k2.1; omega
                · rcases CL_split hs hv k g with e | ⟨_, j, e1, e2⟩
                  · right
                    exact CL_sub k (fun u hu r => by rw [l_clr cur hv hu]; exact r) e
                  · left
                    have := k2.2.2.1 j (CL_sub j (fun u hu r => by
                      rw [hset u hu]
                      rw [Bool.and_eq_true] at r
                      have : ¬ u = v := fun e => by rw [e, hr] at r; cases r.2
                      rw [r.1, r.2, decide_eq_false this]; rfl) e2)
                    omega
          · rw [if_neg (fun r => q2 (jj.mp r)), zok_some]
            refine fin fun k hk => ?_
            have := CL_card hr k hk
            unfold lct at q2
            omega
      have hBD0 : BD A (min 0 (b1 - dep)) (fun u => lb x u && !lb x u && !lb 0 u) := by
        intro k hk
        cases k with
        | zero => exact Nat.zero_le _
        | succ k =>
          obtain ⟨v, _, h, _⟩ := hk
          exfalso
          revert h
          show (lb x v && !lb x v && !lb 0 v) = true → False
          cases lb x v <;> simp
      refine z_mea (fun n (s : Int64 × Int64 × Nat) => fn_X12_grows_22 (fn_X12_growsR f) x (nI dep) n s.1 s.2.1 (nI s.2.2) E1) (fun s => (∀ u, lb s.1 u = true → lb x u = true) ∧ (∀ u, lb s.2.1 u = true → lb x u = true) ∧ s.2.2 + lct s.1 ≤ lct x ∧ BD A (min s.2.2 (b1 - dep)) (fun u => lb x u && !lb s.1 u && !lb s.2.1 u)) (fun s => lct s.1) _ ?_ zFU (x, 0, 0) (by have := lct_le x; show lct x < zFU; unfold zFU; omega) ⟨fun u r => r, fun u r => (by replace r : lb 0 u = true := r; rw [l_0] at r; cases r), (by show 0 + lct x ≤ lct x; omega), hBD0⟩
      intro n ⟨rest, kept, q⟩ ⟨g1, g2, g3, g4⟩ ih
      replace g1 : ∀ u, lb rest u = true → lb x u = true := g1
      replace g2 : ∀ u, lb kept u = true → lb x u = true := g2
      replace g3 : q + lct rest ≤ lct x := g3
      replace g4 : BD A (min q (b1 - dep)) (fun u => lb x u && !lb rest u && !lb kept u) := g4
      show zok (fn_X12_grows_22 (fn_X12_growsR f) x (nI dep) (n + 1) rest kept (nI q) E1) _
      have hlx := lct_le x
      rw [fn_X12_grows_22]
      by_cases q0 : rest = 0
      · rw [if_pos (lg_iff.mpr q0)]
        refine lst kept g2 (BD_sub g4 (Nat.min_le_right _ _) fun u _ r => ?_)
        rw [Bool.and_eq_true] at r
        show (lb x u && !lb rest u && !lb kept u) = true
        rw [q0, l_0, r.1, r.2]; rfl
      · rw [if_neg (fun r => q0 (lg_iff.mp r)), nI_1]
        have jj := nLe (dep + (q + 1)) b1 (by omega) (by omega)
        refine z_mea (fun m (s : Int64 × Int64 × Int64) => fn_X12_grows_36 (fn_X12_growsR f) x (nI dep) (fn_X12_grows_22 (fn_X12_growsR f) x (nI dep) n) m s.1 s.2.1 (nI (q + 1)) s.2.2 E1) (fun s => (∀ u, lb s.1 u = true → lb x u = true) ∧ (∀ u, lb s.2.1 u = true → lb x u = true) ∧ (∀ u, lb s.2.2 u = true → lb s.1 u = true) ∧ ((s.1 = rest ∧ s.2.2 = rest) ∨ lct s.1 < lct rest) ∧ ∃ I : Nat → Bool, (∀ u v, u < 64 → v < 64 → I u = true → I v = true → A u v = false) ∧ (∀ u v, lb s.2.2 u = true → I v = true → A v u = false) ∧ ∀ u, u < 64 → lb x u = true → lb s.1 u = false → lb s.2.1 u = false → (lb x u && !lb rest u && !lb kept u) = true ∨ (I u = true ∧ q + 1 ≤ b1 - dep)) (fun s => lct s.2.2) _ ?_ zFU (rest, kept, rest) (by have := lct_le rest; show lct rest < zFU; unfold zFU; omega) ⟨g1, g2, fun u r => r, Or.inl ⟨rfl, rfl⟩, fun _ => false, fun u v _ _ r => (by cases r), fun u v _ r => (by cases r), fun u hu h1 h2 h3 => Or.inl (by
          replace h2 : lb rest u = false := h2
          replace h3 : lb kept u = false := h3
          rw [h1, h2, h3]; rfl)⟩
        intro m ⟨rest2, kept2, av⟩ ⟨k1, k2, k3, k4, I, k5, k6, k7⟩ ih2
        replace k1 : ∀ u, lb rest2 u = true → lb x u = true := k1
        replace k2 : ∀ u, lb kept2 u = true → lb x u = true := k2
        replace k3 : ∀ u, lb av u = true → lb rest2 u = true := k3
        replace k4 : (rest2 = rest ∧ av = rest) ∨ lct rest2 < lct rest := k4
        replace k6 : ∀ u v, lb av u = true → I v = true → A v u = false := k6
        replace k7 : ∀ u, u < 64 → lb x u = true → lb rest2 u = false → lb kept2 u = false → (lb x u && !lb rest u && !lb kept u) = true ∨ (I u = true ∧ q + 1 ≤ b1 - dep) := k7
        show zok (fn_X12_grows_36 (fn_X12_growsR f) x (nI dep) (fn_X12_grows_22 (fn_X12_growsR f) x (nI dep) n) (m + 1) rest2 kept2 (nI (q + 1)) av E1) _
        rw [fn_X12_grows_36]
        by_cases q1 : av = 0
        · rw [if_pos (lg_iff.mpr q1)]
          have k4' : lct rest2 < lct rest := by
            rcases k4 with ⟨_, e⟩ | e
            · exact absurd (e.symm.trans q1) q0
            · exact e
          refine ih (rest2, kept2, q + 1) ⟨k1, k2, by show q + 1 + lct rest2 ≤ lct x; omega, ?_⟩ k4'
          show BD A (min (q + 1) (b1 - dep)) (fun u => lb x u && !lb rest2 u && !lb kept2 u)
          have sub : ∀ u, u < 64 → (lb x u && !lb rest2 u && !lb kept2 u) = true → (lb x u && !lb rest u && !lb kept u) = true ∨ (I u = true ∧ q + 1 ≤ b1 - dep) := by
            intro u hu r
            rw [Bool.and_eq_true, Bool.and_eq_true, Bool.not_eq_true', Bool.not_eq_true'] at r
            exact k7 u hu r.1.1 r.1.2 r.2
          by_cases q2 : q + 1 ≤ b1 - dep
          · have := BD_add g4 k5 (fun u hu r => by
              rcases sub u hu r with e | e
              · exact Or.inl e
              · exact Or.inr e.1)
            exact BD_sub this (by omega) fun u _ r => r
          · exact BD_sub g4 (by omega) fun u hu r => by
              rcases sub u hu r with e | e
              · exact e
              · omega
        · obtain ⟨v, hv, v1, _, v2⟩ := l_low q1
          have hv3 := k3 v v1
          have hvx := k1 v hv3
          have c3 := l_clr_ct hv v1
          have c4 := l_clr_ct hv hv3
          rw [if_neg (fun r => q1 (lg_iff.mp r)), v2, Option.bind_some, zlet_eq, zck_nI hv (by omega), nI_clamp (by omega), zlet_eq, hb1, nI_add]
          have hav : ∀ u, u < 64 → lb (av &&& ((zlshl 1 (nI v) ^^^ -1) &&& (gL E1 202 v ^^^ -1))) u = (lb av u && (!decide (u = v) && !A v u)) := fun u hu => by
            rw [l_and, l_and, l_not _ hu, l_bit v hv u hu, l_not _ hu, row1 E1 hE1 v hvx u hu]
          have hav2 : ∀ u, lb (av &&& ((zlshl 1 (nI v) ^^^ -1) &&& (gL E1 202 v ^^^ -1))) u = true → lb av u = true ∧ u ≠ v ∧ A v u = false := fun u r => by
            rw [hav u (lb_lt r), Bool.and_eq_true, Bool.and_eq_true, Bool.not_eq_true', Bool.not_eq_true', decide_eq_false_iff_not] at r
            exact ⟨r.1, r.2.1, r.2.2⟩
          have c5 : lct (av &&& ((zlshl 1 (nI v) ^^^ -1) &&& (gL E1 202 v ^^^ -1))) ≤ lct (av &&& (zlshl 1 (nI v) ^^^ -1)) := lct_sub fun u hu r => by
            have := hav2 u r
            rw [l_clr av hv hu, this.1, decide_eq_false this.2.1]; rfl
          have c6 : lct rest2 ≤ lct rest := by
            rcases k4 with ⟨e, _⟩ | e
            · rw [e]; exact Nat.le_refl _
            · omega
          have e1 : ∀ u, lb (rest2 &&& (zlshl 1 (nI v) ^^^ -1)) u = true → lb rest2 u = true := fun u r => by
            rw [l_clr rest2 hv (lb_lt r), Bool.and_eq_true] at r
            exact r.1
          have e2 : ∀ u, lb (av &&& ((zlshl 1 (nI v) ^^^ -1) &&& (gL E1 202 v ^^^ -1))) u = true → lb (rest2 &&& (zlshl 1 (nI v) ^^^ -1)) u = true := fun u r => by
            have := hav2 u r
            rw [l_clr rest2 hv (lb_lt r), k3 u this.1, decide_eq_false this.2.1]; rfl
          have e3 : ∀ u, u < 64 → lb (rest2 &&& (zlshl 1 (nI v) ^^^ -1)) u = false → lb rest2 u = false ∨ u = v := fun u hu r => by
            rw [l_clr rest2 hv hu] at r
            by_cases e : u = v
            · exact Or.inr e
            · rw [decide_eq_false e] at r
              left
              revert r
              cases lb rest2 u <;> simp
          by_cases q2 : dep + (q + 1) ≤ b1
          · rw [if_pos (jj.mpr q2)]
            refine ih2 (rest2 &&& (zlshl 1 (nI v) ^^^ -1), kept2, _) ⟨fun u r => k1 u (e1 u r), k2, e2, Or.inr (by show lct (rest2 &&& (zlshl 1 (nI v) ^^^ -1)) < lct rest; omega), fun u => I u || decide (u = v), fun u w hu hw r1 r2 => ?_, fun u w r1 r2 => ?_, fun u hu h1 h2 h3 => ?_⟩ (by show lct (av &&& ((zlshl 1 (nI v) ^^^ -1) &&& (gL E1 202 v ^^^ -1))) < lct av; omega)
            · rw [Bool.or_eq_true, decide_eq_true_eq] at r1 r2
              rcases r1 with r1 | rfl
              · rcases r2 with r2 | rfl
                · exact k5 u w hu hw r1 r2
                · exact k6 _ u v1 r1
              · rcases r2 with r2 | rfl
                · rw [hs]; exact k6 _ w v1 r2
                · exact hr _
            · rw [Bool.or_eq_true, decide_eq_true_eq] at r2
              have := hav2 u r1
              rcases r2 with r2 | rfl
              · exact k6 u w this.1 r2
              · exact this.2.2
            · rcases e3 u hu h2 with e | e
              · rcases k7 u hu h1 e h3 with g | g
                · exact Or.inl g
                · exact Or.inr ⟨by show (I u || decide (u = v)) = true; rw [g.1]; rfl, g.2⟩
              · exact Or.inr ⟨by show (I u || decide (u = v)) = true; rw [decide_eq_true e, Bool.or_true], by omega⟩
          · rw [if_neg (fun r => q2 (jj.mp r)), zlet_eq]
            refine ih2 (rest2 &&& (zlshl 1 (nI v) ^^^ -1), kept2 ||| zlshl 1 (nI v), _) ⟨fun u r => k1 u (e1 u r), fun u r => ?_, e2, Or.inr (by show lct (rest2 &&& (zlshl 1 (nI v) ^^^ -1)) < lct rest; omega), I, k5, fun u w r1 r2 => k6 u w (hav2 u r1).1 r2, fun u hu h1 h2 h3 => ?_⟩ (by show lct (av &&& ((zlshl 1 (nI v) ^^^ -1) &&& (gL E1 202 v ^^^ -1))) < lct av; omega)
            · have hu := lb_lt r
              replace r : lb (kept2 ||| zlshl 1 (nI v)) u = true := r
              rw [l_or, l_bit v hv u hu, Bool.or_eq_true, decide_eq_true_eq] at r
              rcases r with r | rfl
              · exact k2 u r
              · exact hvx
            · replace h3 : lb (kept2 ||| zlshl 1 (nI v)) u = false := h3
              rw [l_or, l_bit v hv u hu, Bool.or_eq_false_iff, decide_eq_false_iff_not] at h3
              rcases e3 u hu h2 with e | e
              · exact k7 u hu h1 e h3.1
              · exact absurd e h3.2
    unfold fn_X12_grows
    have jj := nLe dep b (by omega) (by omega)
    rw [h53]
    by_cases q : dep ≤ b
    · rw [if_pos (jj.mpr q), zlet_eq]
      exact mid E b h53 (Nat.le_refl _) q hb (Or.inl rfl) agL.refl
    · rw [if_neg (fun r => q (jj.mp r)), zlet_eq, zlet_eq]
      exact mid _ dep gI_eq (by omega) (Nat.le_refl _) (by omega) (Or.inr rfl) (agL_sI agL.refl (by unfold p53; omega))
end M88
