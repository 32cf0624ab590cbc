/-! THE MATHEMATICS: the least part, the class -/
theorem fb_ct_orle (p q : Nat → Bool) : ∀ n, fb_ct (fun k => p k || q k) n ≤ fb_ct p n + fb_ct q n
  | 0 => Nat.zero_le _
  | n + 1 => by
    have h := fb_ct_orle p q n
    rw [fb_ct_succ, fb_ct_succ, fb_ct_succ]
    cases p n <;> cases q n <;> simp <;> omega
theorem pc_orle (x y : Int32) : pc (x ||| y) ≤ pc x + pc y := by
  unfold pc
  rw [fb_ct_cong (q := fun k => bt x k || bt y k) fun k _ => b_or x y k]
  exact fb_ct_orle _ _ _
theorem pc_dis {x y : Int32} (h : ∀ i, i < 32 → ¬ (bt x i = true ∧ bt y i = true)) : pc (x ||| y) = pc x + pc y := by
  unfold pc
  rw [fb_ct_cong (q := fun k => bt x k || bt y k) fun k _ => b_or x y k]
  exact fb_ct_or h
theorem n_add2 {b u : Nat} (hb : b < 31) (hu : u < 2 ^ b) : nI (2 ^ b + u) = bit1 b ||| nI u := by
  rw [bit1_eq b (by omega)]
  have := fa_or_sum (a := u) (k := b) 1 hu
  rw [Nat.mul_one] at this
  exact this.symm
theorem bt_hi {u b i : Nat} (hb : b < 32) (hu : u < 2 ^ b) (hi : b ≤ i) : bt (nI u) i = false := by
  have : 2 ^ b ≤ 2 ^ 31 := Nat.pow_le_pow_right (by decide) (by omega)
  rw [bt_nI (by omega)]
  exact Nat.testBit_lt_two_pow (Nat.lt_of_lt_of_le hu (Nat.pow_le_pow_right (by decide) hi))
theorem pc_add2 {b u : Nat} (hb : b < 31) (hu : u < 2 ^ b) : pc (nI (2 ^ b + u)) = pc (nI u) + 1 := by
  rw [n_add2 hb hu, pc_dis, (pc_bit1 (i := b) (by omega)).1, Nat.add_comm]
  intro i hi ⟨h1, h2⟩
  rw [bt_bit1 b (by omega) i hi, decide_eq_true_eq] at h1
  rw [bt_hi (by omega) hu (by omega)] at h2
  cases h2
theorem pc_small {b u : Nat} (hb : b < 31) (hu : u < 2 ^ b) : pc (nI u) ≤ b := by
  have : 2 ^ b ≤ 2 ^ 31 := Nat.pow_le_pow_right (by decide) (by omega)
  exact pc_un (by omega) (by rw [un_nI (by omega)]; exact hu)
theorem x7_neg : ∀ a, a < 8 → ∀ b, b < 33 → a < b → nI a - nI b ≤ 0 ∧ ∀ c, c < 33 → nI a - nI b ≤ nI c ∧ ¬ nI c < nI a - nI b := by decide +kernel
def til (m k : Nat) (xs : Nat → Int32) (T : Int32) : Prop := ∀ i, i < m → k ≤ pc (xs i &&& T)
section M79
variable {D : zD} {P : Nat → Nat} {nc c ns d m k l b : Nat} {cv : Nat → Int32}
theorem c_hope (h1 : gI D 90 1 = nI m) (hm : m ≤ 12) (h2 : gI D 90 2 = nI k) (hk : k ≤ 7) (hl : l ≤ 6) (hb : b ≤ 30) (X : Int32) : zok (fn_X4_isHopeless X (nI l) (nI b) D) fun r => (r = 0 → l = 0 → til m k (gI D 91) X) ∧ (r ≠ 0 → ∀ U, U < 2 ^ b → pc (nI U) = l → ¬ til m k (gI D 91) (X ||| nI U)) := by
  unfold fn_X4_isHopeless
  rw [zlet_eq, bd_eq b (by omega)]
  have hU : ∀ U, U < 2 ^ b → pc (nI U) = l → til m k (gI D 91) (X ||| nI U) → ∀ i, i < m → k ≤ pc (gI D 91 i &&& X) + pc (gI D 91 i &&& nI U) ∧ pc (gI D 91 i &&& nI U) ≤ l ∧ pc (gI D 91 i &&& nI U) ≤ pc (gI D 91 i &&& nI (2 ^ b - 1)) := by
    intro U u1 u2 u3 i hi
    refine ⟨Nat.le_trans (u3 i hi) (Nat.le_trans (pc_sub fun j hj q => ?_) (pc_orle _ _)), u2 ▸ pc_sub fun j hj q => ?_, pc_sub fun j hj q => ?_⟩
    · rw [b_and, b_or] at q
      rw [b_or, b_and, b_and]
      revert q
      cases bt (gI D 91 i) j <;> cases bt X j <;> cases bt (nI U) j <;> decide
    · rw [b_and] at q
      revert q
      cases bt (gI D 91 i) j <;> cases bt (nI U) j <;> decide
    · rw [b_and, Bool.and_eq_true] at q
      rw [b_and, q.1, bt_bd (by omega)]
      rcases Nat.lt_or_ge j b with g | g
      · rw [decide_eq_true g]; rfl
      · rw [bt_hi (by omega) u1 g] at q
        cases q.2
  refine z_inv m (fun n i (s : Int32 × Int32) => fn_X4_isHopeless_16 X (nI l) (nI b) D n (nI (2 ^ b - 1)) s.1 s.2 (nI i)) (fun i s => (l = 0 → ∀ j, j < i → k ≤ pc (gI D 91 j &&& X)) ∧ ∃ q, s.2 = nI q ∧ q ≤ 7 * i ∧ ∀ U, U < 2 ^ b → pc (nI U) = l → til m k (gI D 91) (X ||| nI U) → q ≤ pc (nI U &&& s.1)) _ ?_ ?_ 0 zFU ((0 : Int32), (0 : Int32)) (Nat.zero_le _) (zfu_gt (by omega)) ⟨fun _ j hj => absurd hj (Nat.not_lt_zero _), 0, rfl, Nat.le_refl _, fun _ _ _ _ => Nat.zero_le _⟩
  · intro n i s hi ⟨g1, q, g2, g3, g4⟩ ih
    show zok (fn_X4_isHopeless_16 X (nI l) (nI b) D (n + 1) (nI (2 ^ b - 1)) s.1 s.2 (nI i)) _
    rw [fn_X4_isHopeless_16, h1, if_neg (nI_ge hi (by omega)), if_neg (show ¬ (12 : Int32) ≤ nI i from nI_ge (b := 12) (by omega) (by omega)), zck_nI (by omega) (by omega), nI_clamp (by omega), pc_bit, Option.bind_some, h2, zlet_eq, zck_nI (by omega) (by omega), zlet_eq, pc_bit, Option.bind_some, nI_1]
    have p1 := pc_le (gI D 91 i &&& X)
    have p2 := pc_le (gI D 91 i &&& nI (2 ^ b - 1))
    have hV := fun U u1 u2 u3 => hU U u1 u2 u3 i hi
    generalize hx : pc (gI D 91 i &&& X) = x at *
    generalize hy : pc (gI D 91 i &&& nI (2 ^ b - 1)) = y at *
    rcases Nat.lt_or_ge k x with e | e
    · obtain ⟨n1, n2⟩ := x7_neg k (by omega) x (by omega) e
      rw [if_neg (n2 l (by omega)).2, if_pos (n2 y (by omega)).1, if_pos n1]
      refine ih s ⟨fun hl0 j hj => ?_, q, g2, by omega, g4⟩
      by_cases r : j = i
      · rw [r, hx]; omega
      · exact g1 hl0 j (by omega)
    · have j1 := nLt l (k - x) (by omega) (by omega)
      have j2 := nLe (k - x) y (by omega) (by omega)
      have j3 := nLe0 (k - x) (by omega)
      rw [nSn k x e]
      by_cases r1 : l < k - x
      · rw [if_pos (j1.mpr r1), zok_some]
        refine ⟨fun r => (by cases r), fun _ U u1 u2 u3 => ?_⟩
        have := hV U u1 u2 u3
        omega
      · rw [if_neg (fun r => r1 (j1.mp r))]
        by_cases r2 : k - x ≤ y
        · rw [if_pos (j2.mpr r2)]
          have nx0 : l = 0 → ∀ j, j < i + 1 → k ≤ pc (gI D 91 j &&& X) := by
            intro hl0 j hj
            by_cases r : j = i
            · rw [r, hx]; omega
            · exact g1 hl0 j (by omega)
          by_cases r3 : k - x = 0
          · rw [if_pos (j3.mpr r3)]
            exact ih s ⟨nx0, q, g2, by omega, g4⟩
          · rw [if_neg (fun r => r3 (j3.mp r))]
            by_cases r4 : gI D 91 i &&& nI (2 ^ b - 1) &&& s.1 = 0
            · rw [if_pos r4, g2, zlet_eq, zlet_eq, nI_add]
              refine ih (s.1 ||| gI D 91 i &&& nI (2 ^ b - 1), nI (q + (k - x))) ⟨nx0, _, rfl, by omega, fun U u1 u2 u3 => ?_⟩
              have a1 := g4 U u1 u2 u3
              have a2 := hV U u1 u2 u3
              have a3 : pc (nI U &&& (s.1 ||| gI D 91 i &&& nI (2 ^ b - 1))) = pc (nI U &&& s.1) + pc (gI D 91 i &&& nI U) := by
                rw [← pc_dis]
                · apply pc_congr
                  intro j hj
                  rw [b_and, b_or, b_or, b_and, b_and, b_and, bt_bd (by omega)]
                  rcases Nat.lt_or_ge j b with g | g
                  · rw [decide_eq_true g]
                    cases bt (gI D 91 i) j <;> cases bt s.1 j <;> cases bt (nI U) j <;> rfl
                  · rw [bt_hi (by omega) u1 g]
                    cases bt (gI D 91 i) j <;> cases bt s.1 j <;> rfl
                · intro j hj ⟨o1, o2⟩
                  have o3 : bt (gI D 91 i &&& nI (2 ^ b - 1) &&& s.1) j = false := by rw [r4, b_0]
                  rw [b_and, Bool.and_eq_true] at o1 o2
                  rw [b_and, b_and, o2.1, o1.2, Bool.and_true, Bool.true_and] at o3
                  rcases Nat.lt_or_ge j b with g | g
                  · rw [bt_bd (by omega), decide_eq_true g] at o3; cases o3
                  · rw [bt_hi (by omega) u1 g] at o1; cases o1.1
              show q + (k - x) ≤ pc (nI U &&& (s.1 ||| gI D 91 i &&& nI (2 ^ b - 1)))
              omega
            · rw [if_neg r4]
              exact ih s ⟨nx0, q, g2, by omega, g4⟩
        · rw [if_neg (fun r => r2 (j2.mp r)), zok_some]
          refine ⟨fun r => (by cases r), fun _ U u1 u2 u3 => ?_⟩
          have := hV U u1 u2 u3
          omega
  · intro n s ⟨g1, q, g2, g3, g4⟩
    show zok (fn_X4_isHopeless_16 X (nI l) (nI b) D (n + 1) (nI (2 ^ b - 1)) s.1 s.2 (nI m)) _
    rw [fn_X4_isHopeless_16, h1, if_pos (nI_le (Nat.le_refl _) (by omega))]
    unfold fn_X4_isHopeless_114
    have j1 := nLe q l (by omega) (by omega)
    rw [g2]
    by_cases r : q ≤ l
    · rw [if_pos (j1.mpr r), zok_some]
      exact ⟨fun _ hl0 j hj => g1 hl0 j hj, fun q => absurd rfl q⟩
    · rw [if_neg (fun q => r (j1.mp q)), zok_some]
      refine ⟨fun r => (by cases r), fun _ U u1 u2 u3 => ?_⟩
      have a1 := g4 U u1 u2 u3
      have a2 : pc (nI U &&& s.1) ≤ pc (nI U) := pc_sub fun j hj q => by
        rw [b_and, Bool.and_eq_true] at q
        exact q.1
      omega
def fnd (m k l b : Nat) (xs : Nat → Int32) (X : Int32) (D : zD) (q : Int32 × zD) : Prop :=
  (q.1 = 0 ∧ q.2 = D ∧ ∀ U, U < 2 ^ b → pc (nI U) = l → ¬ til m k xs (X ||| nI U)) ∨ (q.1 = 1 ∧ ∃ U, U < 2 ^ b ∧ pc (nI U) = l ∧ til m k xs (X ||| nI U) ∧ (∀ V, V < U → pc (nI V) = l → ¬ til m k xs (X ||| nI V)) ∧ q.2 = sI D 90 3 (X ||| nI U))
theorem c_grows (h1 : gI D 90 1 = nI m) (hm : m ≤ 12) (h2 : gI D 90 2 = nI k) (hk : k ≤ 7) : ∀ (f l b : Nat) (X : Int32), l < f → l ≤ 6 → b ≤ 30 → zok (fn_X4_growsR f X (nI l) (nI b) D) (fnd m k l b (gI D 91) X D)
  | 0, l, b, X => fun h => absurd h (Nat.not_lt_zero _)
  | f + 1, l, b, X => fun hf hl hb => by
    show zok (fn_X4_grows (fn_X4_growsR f) X (nI l) (nI b) D) _
    unfold fn_X4_grows
    rw [if_neg (nI_pos (by omega)), if_neg (show ¬ (6 : Int32) < nI l by rw [show (6 : Int32) = nI 6 from rfl, nLt _ _ (by omega) (by omega)]; omega)]
    refine (c_hope h1 hm h2 hk hl hb X).bind fun r ⟨r1, r2⟩ => ?_
    by_cases q : r = 0
    · have j1 := nEq0 l (by omega)
      rw [if_pos q]
      by_cases q0 : l = 0
      · rw [if_pos (j1.mpr q0), zlet_eq, zok_some]
        have e0 : X ||| nI 0 = X := Int32.or_zero
        refine Or.inr ⟨rfl, 0, Nat.two_pow_pos _, by rw [q0]; exact pc_0, by rw [e0]; exact r1 q q0, fun V hV => absurd hV (Nat.not_lt_zero _), by rw [e0]⟩
      · rw [if_neg (fun r => q0 (j1.mp r)), zlet_eq, nS1 _ (by omega)]
        refine z_inv (max b (l - 1)) (fun n i (_ : Unit) => fn_X4_grows_38 (fn_X4_growsR f) X (nI l) (nI b) n (nI i) D) (fun i _ => l - 1 ≤ i ∧ ∀ U, U < 2 ^ i → U < 2 ^ b → pc (nI U) = l → ¬ til m k (gI D 91) (X ||| nI U)) _ ?_ ?_ (l - 1) zFU () (Nat.le_max_right _ _) (zfu_gt (by omega)) ⟨Nat.le_refl _, fun U u1 _ u2 => ?_⟩
        · intro n i _ hi ⟨g1, g2⟩ ih
          show zok (fn_X4_grows_38 (fn_X4_growsR f) X (nI l) (nI b) (n + 1) (nI i) D) _
          have hib : i < b := by omega
          rw [fn_X4_grows_38, if_neg (nI_ge hib (by omega)), bit1_u, nS1 _ (by omega), nI_1]
          have hpw : 2 ^ i * 2 ≤ 2 ^ b := by rw [← Nat.pow_succ]; exact Nat.pow_le_pow_right (by decide) hib
          have sp : ∀ U, 2 ^ i ≤ U → U < 2 ^ (i + 1) → U = 2 ^ i + (U - 2 ^ i) ∧ U - 2 ^ i < 2 ^ i := fun U u1 u2 => by rw [Nat.pow_succ] at u2; omega
          have eX : ∀ u, u < 2 ^ i → X ||| nI (2 ^ i + u) = X ||| bit1 i ||| nI u := fun u hu => by rw [n_add2 (by omega) hu, Int32.or_assoc]
          refine (c_grows h1 hm h2 hk f (l - 1) i (X ||| bit1 i) (by omega) (by omega) (by omega)).bind fun s hs => ?_
          rcases hs with ⟨s1, s2, s3⟩ | ⟨s1, U, s2, s3, s4, s5, s6⟩
          · rw [s1, if_pos rfl, s2]
            refine ih () ⟨by omega, fun U u1 u0 u2 => ?_⟩
            rcases Nat.lt_or_ge U (2 ^ i) with g | g
            · exact g2 U g u0 u2
            · obtain ⟨v1, v2⟩ := sp U g u1
              rw [v1, eX _ v2]
              refine s3 _ v2 ?_
              rw [v1, pc_add2 (by omega) v2] at u2
              omega
          · rw [s1, if_neg (by decide), zok_some]
            refine Or.inr ⟨rfl, 2 ^ i + U, by omega, by rw [pc_add2 (by omega) s2]; omega, by rw [eX _ s2]; exact s4, fun V hV v2 => ?_, by rw [eX _ s2]; exact s6⟩
            rcases Nat.lt_or_ge V (2 ^ i) with g | g
            · exact g2 V g (by omega) v2
            · obtain ⟨w1, w2⟩ := sp V g (by rw [Nat.pow_succ]; omega)
              rw [w1, eX _ w2]
              refine s5 _ (by omega) ?_
              rw [w1, pc_add2 (by omega) w2] at v2
              omega
        · intro n _ ⟨g1, g2⟩
          show zok (fn_X4_grows_38 (fn_X4_growsR f) X (nI l) (nI b) (n + 1) (nI (max b (l - 1))) D) _
          rw [fn_X4_grows_38, if_pos (nI_le (Nat.le_max_left _ _) (by omega)), zok_some]
          exact Or.inl ⟨rfl, rfl, fun U u1 u2 => g2 U (Nat.lt_of_lt_of_le u1 (Nat.pow_le_pow_right (by decide) (Nat.le_max_left _ _))) u1 u2⟩
        · have := pc_small (b := l - 1) (by omega) u1
          omega
    · rw [if_neg q, zok_some]
      exact Or.inl ⟨rfl, rfl, r2 q⟩
def pLe (a _b : Nat) : Prop := a ≠ 90 ∧ a ≠ 91
theorem c_find84 (h1 : gI D 90 1 = nI m) (hm : m ≤ 12) (h2 : gI D 90 2 = nI k) (hk : k ≤ 7) (hc : c ≤ 30) (hcell : fn_X0_cells 3 D = some (nI c)) (v2 v3 : Int32) : zok (fn_X4_find_84 3 v2 v3 zFU 0 D) fun q => (q.1 = 0 ∧ q.2 = D ∧ ∀ T, T < 2 ^ c → til m k (gI D 91) (nI T) → 6 < pc (nI T)) ∨ (q.1 = 1 ∧ ∃ T, T < 2 ^ c ∧ til m k (gI D 91) (nI T) ∧ pc (nI T) ≤ 6 ∧ (∀ U, U < 2 ^ c → til m k (gI D 91) (nI U) → pc (nI T) ≤ pc (nI U)) ∧ (∀ U, U < T → pc (nI U) = pc (nI T) → ¬ til m k (gI D 91) (nI U)) ∧ q.2 = sI D 90 3 (nI T)) := by
  refine z_inv 7 (fun n i (_ : Unit) => fn_X4_find_84 3 v2 v3 n (nI i) D) (fun i _ => ∀ T, T < 2 ^ c → til m k (gI D 91) (nI T) → i ≤ pc (nI T)) _ ?_ ?_ 0 zFU () (Nat.zero_le _) (zfu_gt (by omega)) fun _ _ _ => Nat.zero_le _
  · intro n i _ hi g ih
    show zok (fn_X4_find_84 3 v2 v3 (n + 1) (nI i) D) _
    rw [fn_X4_find_84, if_neg (show ¬ (6 : Int32) < nI i by rw [show (6 : Int32) = nI 6 from rfl, nLt _ _ (by omega) (by omega)]; omega), hcell, Option.bind_some, nI_1]
    refine (c_grows h1 hm h2 hk 100 i c 0 (by omega) (by omega) hc).bind fun s hs => ?_
    rcases hs with ⟨s1, s2, s3⟩ | ⟨s1, U, s2, s3, s4, s5, s6⟩
    · rw [s1, if_pos rfl, s2]
      refine ih () fun T t1 t2 => ?_
      have := g T t1 t2
      rcases Nat.lt_or_eq_of_le this with q | q
      · exact q
      · exact absurd (by rw [Int32.zero_or]; exact t2) (s3 T t1 q.symm)
    · rw [s1, if_neg (by decide), zok_some]
      rw [Int32.zero_or] at s4 s6
      exact Or.inr ⟨rfl, U, s2, s4, by omega, fun V v1 v2 => by rw [s3]; exact g V v1 v2, fun V v1 v2 v3 => s5 V v1 (by rw [v2, s3]) (by rw [Int32.zero_or]; exact v3), s6⟩
  · intro n _ g
    show zok (fn_X4_find_84 3 v2 v3 (n + 1) (nI 7) D) _
    rw [fn_X4_find_84, if_pos (show (6 : Int32) < nI 7 by decide), zok_some]
    exact Or.inl ⟨rfl, rfl, fun T t1 t2 => g T t1 t2⟩
theorem c_findLe (h2 : gI D 3 2 = nI ns) (hn : ns ≤ 12) {s d : Nat} (hs : s < ns) (hd : d ≤ 3) (hc : c ≤ 30) (h0 : fn_X0_cells 3 D = some (nI c)) : zok (fn_X4_find 3 (nI s) (nI (2 * d + 1)) D) fun q => ((q.1 = 0 ∧ ∀ T, T < 2 ^ c → tls ns (gI D 4) (2 * d) s (nI T) → 6 < pc (nI T)) ∨ (q.1 = 1 ∧ ∃ T, T < 2 ^ c ∧ tls ns (gI D 4) (2 * d) s (nI T) ∧ pc (nI T) ≤ 6 ∧ (∀ U, U < 2 ^ c → tls ns (gI D 4) (2 * d) s (nI U) → pc (nI T) ≤ pc (nI U)) ∧ (∀ U, U < T → pc (nI U) = pc (nI T) → ¬ tls ns (gI D 4) (2 * d) s (nI U)) ∧ gI q.2 90 3 = nI T)) ∧ ag pLe D q.2 := by
  unfold fn_X4_find
  rw [zlet_eq, zlet_eq]
  have g0 : ag pLe D (sI (sI D 90 1 0) 90 2 (nI (2 * d + 1))) := (ag.refl.sI (by unfold pLe; omega)).sI (by unfold pLe; omega)
  refine z_inv ns (fun n o (E : zD) => fn_X4_find_13 3 (nI s) (nI (2 * d + 1)) n (nI o) E) (fun o E => ag pLe D E ∧ gI E 90 2 = nI (2 * d + 1) ∧ ∃ m, gI E 90 1 = nI m ∧ m ≤ o ∧ (∀ i, i < m → ∃ u, u < o ∧ u ≠ s ∧ gI E 91 i = gI D 4 s ^^^ gI D 4 u) ∧ (∀ u, u < o → u ≠ s → ∃ i, i < m ∧ gI E 91 i = gI D 4 s ^^^ gI D 4 u)) _ ?_ ?_ 0 zFU _ (Nat.zero_le _) (zfu_gt (by omega)) ⟨g0, gI_eq, 0, by rw [gI_nb (by omega), gI_eq]; rfl, Nat.le_refl _, fun i hi => absurd hi (Nat.not_lt_zero _), fun u hu => absurd hu (Nat.not_lt_zero _)⟩
  · intro n o E ho ⟨g1, g2, m, g3, g4, g5, g6⟩ ih
    show zok (fn_X4_find_13 3 (nI s) (nI (2 * d + 1)) (n + 1) (nI o) E) _
    have e2 : gI E 3 2 = nI ns := by rw [g1 _ _ (by unfold pLe; omega), h2]
    rw [fn_X4_find_13, e2, if_neg (nI_ge ho (by omega)), nI_1]
    have j1 := nEq o s (by omega) (by omega)
    by_cases q : o = s
    · rw [if_pos (j1.mpr q)]
      refine ih E ⟨g1, g2, m, g3, by omega, fun i hi => ?_, fun u hu hus => g6 u (by omega) hus⟩
      obtain ⟨u, u1, u2, u3⟩ := g5 i hi
      exact ⟨u, by omega, u2, u3⟩
    · rw [if_neg (fun r => q (j1.mp r)), g3, if_neg (nI_pos (by omega)), if_neg (show ¬ (12 : Int32) ≤ nI m from nI_ge (b := 12) (by omega) (by omega)), v_paint e2 hs hn, Option.bind_some, v_paint e2 ho hn, Option.bind_some, zck_nI (by omega) (by omega), nI_clamp (by omega), zlet_eq, zlet_eq, gI_na (by omega), g3, nI_1, g1 _ _ (by unfold pLe; omega), g1 _ _ (by unfold pLe; omega)]
      refine ih _ ⟨(g1.sI (by unfold pLe; omega)).sI (by unfold pLe; omega), by rw [gI_nb (by omega), gI_na (by omega), g2], m + 1, gI_eq, by omega, fun i hi => ?_, fun u hu hus => ?_⟩
      · rw [gI_na (by omega), gI_if]
        by_cases r : i = m
        · rw [if_pos r]; exact ⟨o, by omega, q, rfl⟩
        · rw [if_neg r]
          obtain ⟨u, u1, u2, u3⟩ := g5 i (by omega)
          exact ⟨u, by omega, u2, u3⟩
      · by_cases r : u = o
        · exact ⟨m, by omega, by rw [gI_na (by omega), gI_eq, r]⟩
        · obtain ⟨i, i1, i2⟩ := g6 u (by omega) hus
          exact ⟨i, by omega, by rw [gI_na (by omega), gI_nb (by omega), i2]⟩
  · intro n E ⟨g1, g2, m, g3, g4, g5, g6⟩
    show zok (fn_X4_find_13 3 (nI s) (nI (2 * d + 1)) (n + 1) (nI ns) E) _
    rw [fn_X4_find_13, g1 _ _ (by unfold pLe; omega), h2, if_pos (nI_le (Nat.le_refl _) (by omega))]
    have ht : ∀ T, til m (2 * d + 1) (gI E 91) T ↔ tls ns (gI D 4) (2 * d) s T := by
      intro T
      constructor
      · intro h o ho hos
        obtain ⟨i, i1, i2⟩ := g6 o ho hos
        have := h i i1
        rw [i2] at this
        exact this
      · intro h i hi
        obtain ⟨u, u1, u2, u3⟩ := g5 i hi
        rw [u3]
        exact h u u1 u2
    have hcell : fn_X0_cells 3 E = some (nI c) := by
      rw [← h0]
      unfold fn_X0_cells
      rw [g1 _ _ (by unfold pLe; omega), g1 _ _ (by unfold pLe; omega)]
    refine (c_find84 g3 (by omega) g2 (by omega) hc hcell (nI s) (nI (2 * d + 1))).mono fun q hq => ?_
    rcases hq with ⟨q1, q2, q3⟩ | ⟨q1, T, t1, t2, t3, t4, t5, t6⟩
    · exact ⟨Or.inl ⟨q1, fun T t1 t2 => q3 T t1 ((ht _).mpr t2)⟩, by rw [q2]; exact g1⟩
    · exact ⟨Or.inr ⟨q1, T, t1, (ht _).mp t2, t3, fun U u1 u2 => t4 U u1 ((ht _).mpr u2), fun U u1 u2 u3 => t5 U u1 u2 ((ht _).mpr u3), by rw [t6, gI_eq]⟩, by rw [t6]; exact g1.sI (by unfold pLe; omega)⟩
end M79
