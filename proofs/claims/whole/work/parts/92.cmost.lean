/-! THE MATHEMATICS: most signs, the class -/
def pMo (a _b : Nat) : Prop := a ≠ 92 ∧ a ≠ 96
section M92
variable {D : zD} {P : Nat → Nat} {nc c d a : Nat} {cv : Nat → Int32}
theorem c_largestOf2 (h : gI D a 1 = nI nc) (hn : 1 ≤ nc ∧ nc ≤ 500) : ∃ k, k < nc ∧ fn_X3_largest a D = some (nI (pc (gI D (a + 1) k))) ∧ ∀ j, j < nc → pc (gI D (a + 1) j) ≤ pc (gI D (a + 1) k) := by
  have main : zok (fn_X3_largest a D) fun r => (r = 0 ∧ ∀ k, k < nc → pc (gI D (a + 1) k) = 0) ∨ ∃ k, k < nc ∧ r = nI (pc (gI D (a + 1) k)) ∧ ∀ j, j < nc → pc (gI D (a + 1) j) ≤ pc (gI D (a + 1) k) := by
    refine z_inv nc (fun n i (s : Int32) => fn_X3_largest_4 a D n s (nI i)) (fun i s => (s = 0 ∧ ∀ k, k < i → pc (gI D (a + 1) k) = 0) ∨ ∃ k, k < nc ∧ s = nI (pc (gI D (a + 1) k)) ∧ ∀ j, j < i → pc (gI D (a + 1) j) ≤ pc (gI D (a + 1) k)) _ ?_ ?_ 0 zFU 0 (Nat.zero_le _) (zfu_gt (by omega)) (Or.inl ⟨rfl, fun k hk => absurd hk (Nat.not_lt_zero _)⟩)
    · intro n i s hi hI ih
      show zok (fn_X3_largest_4 a D (n + 1) s (nI i)) _
      have p1 := pc_le (gI D (a + 1) i)
      rw [fn_X3_largest_4, h, if_neg (nI_ge hi (by omega)), if_neg (show ¬ (500 : Int32) ≤ nI i from nI_ge (b := 500) (by omega) (by omega)), zck_nI (by omega) (by omega), nI_clamp (by omega), pc_bit, Option.bind_some, zlet_eq, nI_1]
      rcases hI with ⟨rfl, hI⟩ | ⟨k, hk, rfl, hm⟩
      · rw [← nI_0, zmx_n _ _ (by omega) (by omega), Nat.zero_max]
        by_cases q : pc (gI D (a + 1) i) = 0
        · refine ih _ (Or.inl ⟨by rw [q]; rfl, fun k hk => ?_⟩)
          by_cases e : k = i
          · rw [e, q]
          · exact hI k (by omega)
        · refine ih _ (Or.inr ⟨i, hi, rfl, fun j hj => ?_⟩)
          by_cases e : j = i
          · rw [e]; exact Nat.le_refl _
          · rw [hI j (by omega)]; exact Nat.zero_le _
      · have p2 := pc_le (gI D (a + 1) k)
        rw [zmx_n _ _ (by omega) (by omega)]
        rcases Nat.le_total (pc (gI D (a + 1) k)) (pc (gI D (a + 1) i)) with g | g
        · rw [Nat.max_eq_right g]
          refine ih _ (Or.inr ⟨i, hi, rfl, fun j hj => ?_⟩)
          by_cases e : j = i
          · rw [e]; exact Nat.le_refl _
          · exact Nat.le_trans (hm j (by omega)) g
        · rw [Nat.max_eq_left g]
          refine ih _ (Or.inr ⟨k, hk, rfl, fun j hj => ?_⟩)
          by_cases e : j = i
          · rw [e]; exact g
          · exact hm j (by omega)
    · intro n s hI
      show zok (fn_X3_largest_4 a D (n + 1) s (nI nc)) _
      rw [fn_X3_largest_4, h, if_pos (nI_le (Nat.le_refl _) (by omega)), zok_some]
      exact hI
  obtain ⟨r, r1, r2⟩ := main
  rcases r2 with ⟨rfl, r2⟩ | ⟨k, hk, rfl, hm⟩
  · exact ⟨0, by omega, by rw [r1, r2 0 (by omega)]; rfl, fun j hj => by rw [r2 j hj]; exact Nat.zero_le _⟩
  · exact ⟨k, hk, r1, hm⟩
/-- a ball has at least what the class counts -/
theorem ball_le (hc : c = 4 ∨ c = 6) (hd : d ≤ 3) {k : Nat} (hk : un (cv k) < 2 ^ c) : ∃ b, fn_X2_ball (nI (pc (cv k))) (nI c) (nI d) = some (nI b) ∧ 1 ≤ b ∧ (1 ≤ pc (cv k) ∨ 1 ≤ d → 2 ≤ b) ∧ b ≤ 64 ∧ b ≤ fb_ct (bal cv k d 0) (2 ^ c) := by
  have hle : 2 ^ c ≤ 2 ^ 6 := Nat.pow_le_pow_right (by decide) (by omega)
  have e1 : pc (cv k) = pcN (un (cv k)) := by rw [← pcN_eq _ (by omega), nI_un]
  have e2 : ∀ x, x < 2 ^ c → bal cv k d 0 x = decide (pcN (x &&& (63 ^^^ un (cv k))) ≤ d) := fun x hx => by
    unfold bal
    rw [← pcN_eq _ (Nat.lt_of_le_of_lt Nat.and_le_left (by omega))]
    congr 2
    rw [← fa_and, ← nx_xor, nI_un, nx_xor, Nat.xor_zero]
    refine pc_congr fun i hi => ?_
    rw [b_and, b_and, bt_not _ hi, b_xor, show (nI 63) = nI (2 ^ 6 - 1) from rfl, bt_bd (by omega)]
    rcases Nat.lt_or_ge i 6 with g | g
    · rw [decide_eq_true g, Bool.true_xor]
    · rw [bt_hi (b := 6) (by omega) (by omega) g, Bool.false_and, Bool.false_and]
  have p1 := pc_un (x := cv k) (c := c) (by omega) hk
  rcases hc with rfl | rfl
  · obtain ⟨h1, h2, h3, h4⟩ := bT4 (pc (cv k)) (by omega) d (by omega)
    refine ⟨_, h1, h2, h3, h4, ?_⟩
    rw [show (2 ^ 4 : Nat) = 16 from rfl, fb_ct_cong (fun x hx => e2 x hx), e1]
    exact bC4 _ (by omega) d (by omega)
  · obtain ⟨h1, h2, h3, h4⟩ := bT6 (pc (cv k)) (by omega) d (by omega)
    refine ⟨_, h1, h2, h3, h4, ?_⟩
    rw [show (2 ^ 6 : Nat) = 64 from rfl, fb_ct_cong (fun x hx => e2 x hx), e1]
    exact bC6 _ (by omega) d (by omega)
theorem gQ_mo {b2 : Nat} (hc6 : c ≤ 6) (h1 : 1 ≤ nc) {x : Int64} (hx : ∀ u, u < 64 → lb x u = apt c nc cv (2 * d) 0 u) (h : gQ (apt c nc cv (2 * d)) x 1 1 b2) : sp_mo c nc cv (2 * d) (nI b2) := by
  have e1 : ∀ k, CL (apt c nc cv (2 * d)) k (lb x) ↔ CL (apt c nc cv (2 * d)) k (apt c nc cv (2 * d) 0) := fun k => ⟨CL_sub k fun u hu r => by rw [← hx u hu]; exact r, CL_sub k fun u hu r => by rw [hx u hu]; exact r⟩
  have e2 : ∃ m, b2 = m + 1 ∧ CL (apt c nc cv (2 * d)) m (lb x) := by
    rcases h.2.2.2 with e | ⟨k, g1, g2⟩
    · exact ⟨0, by omega, trivial⟩
    · exact ⟨k, by omega, g1⟩
  obtain ⟨m, rfl, hm⟩ := e2
  have h64 : m < 64 := by
    have := CL_card (apt_irr h1) (m + 1) (CL_root (N := 2 ^ c) (Nat.two_pow_pos _) (fun u v r => by
      unfold apt at r
      rw [Bool.and_eq_true, Bool.and_eq_true, decide_eq_true_eq, decide_eq_true_eq] at r
      exact r.1.2) ((e1 m).mp hm))
    have h2 := fb_ct_le (fun u => decide (u < 2 ^ c)) 64
    omega
  exact Or.inr ⟨hc6, m, rfl, h64, (e1 m).mp hm, fun k hk => by have := h.2.2.1 k ((e1 k).mpr hk); omega⟩
theorem c_mostOf (h : gI D a 1 = nI nc) (hn : 1 ≤ nc ∧ nc ≤ 500) (hd : d ≤ 3) (hc : c = 4 ∨ c = 6) (ha : a < 90) (hcov : ∀ k, k < nc → un (gI D (a + 1) k) < 2 ^ c) : zok (fn_X2_largest a (nI c) (nI d) D) fun q => sp_mo c nc (gI D (a + 1)) (2 * d) q.1 ∧ ag pMo D q.2 := by
  have hle : 2 ^ c ≤ 2 ^ 6 := Nat.pow_le_pow_right (by decide) (by omega)
  have hge : 2 ^ 4 ≤ 2 ^ c := Nat.pow_le_pow_right (by decide) (by omega)
  unfold fn_X2_largest
  rw [if_pos (show nI c ≤ (6 : Int32) from nI_le (b := 6) (by omega) (by omega)), show (2 : Int32) * nI d = nI (2 * d) from pk_mul 2 _]
  refine (c_gather0 h hn.2 (by omega) (by omega)).bind fun D2 ⟨e1, e2⟩ => ?_
  obtain ⟨k0, hk0, hlarge, hmax⟩ := c_largestOf2 h hn
  obtain ⟨B, b1, b2, b3, b4, b5⟩ := ball_le hc hd (cv := gI D (a + 1)) (k := k0) (hcov k0 hk0)
  have gD : ∀ u v, gI D2 u v = gI D u v := fun u v => by show D2.2 u v = D.2 u v; rw [e1]
  generalize hcv : gI D (a + 1) = cv at *
  rw [zlet_eq, bit1_u, bit1_eq c (by omega)]
  have hpk := fun m S F => pack (c := c) (d := d) (cv := cv) hk0 m S F
  by_cases q : lg_cmp (gL D2 93 0) 0 = 0
  · rw [if_pos q, zok_some]
    rw [lg_iff] at q
    have hz : ∀ x, x < 2 ^ c → 1 ≤ x → cfx nc cv (2 * d) (nI x) = false := fun x hx h1 => by
      have := e2 x (by omega)
      unfold lr at this
      rw [show x / 64 = 0 by omega, q, l_0, decide_eq_true ⟨h1, hx⟩, Bool.true_and] at this
      exact this.symm
    have hA : ∀ u v, u < 2 ^ c → v < 2 ^ c → u ≠ v → apt c nc cv (2 * d) u v = true := fun u v hu hv huv => by
      unfold apt
      have hx0 : u ^^^ v ≠ 0 := by
        intro r
        have := (x_sw u v 0).mpr r
        rw [Nat.xor_zero] at this
        exact huv this
      rw [decide_eq_true hu, decide_eq_true hv, nx_xor, hz _ (Nat.xor_lt_two_pow hu hv) (by omega)]
      rfl
    refine ⟨Or.inr ⟨by omega, 2 ^ c - 1, by rw [show 2 ^ c - 1 + 1 = 2 ^ c by omega], by omega, CL_full (N := 2 ^ c) (by omega) hA (2 ^ c - 1) 1 _ (by omega) fun u h1 h2 => hA 0 u (by omega) h2 (by omega), fun k hk => ?_⟩, fun x y _ => gD x y⟩
    have h2 := CL_card (apt_irr hn.1) (k + 1) (CL_root (N := 2 ^ c) (Nat.two_pow_pos _) (fun u v r => by
      unfold apt at r
      rw [Bool.and_eq_true, Bool.and_eq_true, decide_eq_true_eq, decide_eq_true_eq] at r
      exact r.1.2) hk)
    have h3 := fb_lt (2 ^ c) 64
    omega
  · rw [if_neg q]
    have hB2 : 2 ≤ B := by
      apply b3
      rcases Nat.eq_zero_or_pos d with g | g
      · left
        rcases Nat.eq_zero_or_pos (pc (cv k0)) with z | z
        · exfalso
          apply q
          rw [lg_iff]
          refine l_ext fun x hx => ?_
          have e3 := e2 x (by omega)
          unfold lr at e3
          rw [show x / 64 = 0 by omega, show x % 64 = x by omega] at e3
          rw [e3, l_0]
          cases r : decide (1 ≤ x ∧ x < 2 ^ c) && cfx nc cv (2 * d) (nI x)
          · rfl
          · rw [Bool.and_eq_true, decide_eq_true_eq] at r
            obtain ⟨k, hk, h1⟩ := cfx_iff.mp r.2
            have hck : pc (cv k) = 0 := by have := hmax k hk; omega
            have : pc (nI x) = 0 := by
              have h2 : pc (nI x) ≤ pc (nI x &&& (cv k ^^^ -1)) := pc_sub fun i hi hb => by
                rw [b_and, hb, bt_not _ hi, fb_ct_zero.mp hck i hi]; rfl
              rw [g] at h1
              omega
            have := pc_zero (by omega) this
            omega
        · exact z
      · exact Or.inr g
    have hlim : ∀ k, CL (apt c nc cv (2 * d)) k (apt c nc cv (2 * d) 0) → 1 + k ≤ 2 ^ c / B := fun k hk => by
      rw [Nat.le_div_iff_mul_le (by omega)]
      have h1 := hpk (k + 1) (fun u => decide (u < 2 ^ c)) (fun _ => true) (CL_root (N := 2 ^ c) (Nat.two_pow_pos _) (fun u v r => by
        unfold apt at r
        rw [Bool.and_eq_true, Bool.and_eq_true, decide_eq_true_eq, decide_eq_true_eq] at r
        exact r.1.2) hk) (fun u hu => ⟨decide_eq_true_eq.mp hu, fun _ _ => rfl⟩)
      have h2 := fb_ct_le (fun _ : Nat => true) (2 ^ c)
      have h3 : (k + 1) * B ≤ (k + 1) * fb_ct (bal cv k0 d 0) (2 ^ c) := Nat.mul_le_mul_left _ b5
      rw [Nat.add_comm 1 k]
      omega
    have hl33 : 2 ^ c / B ≤ 33 := by
      have : 2 ^ c / B ≤ 2 ^ c / 2 := Nat.div_le_div_left hB2 (by decide)
      omega
    -- who is apart from whom
    refine (show zok (fn_X2_largest_39 a (nI c) (nI d) zFU (nI (2 ^ c)) (nI 0) D2) _ from ?_)
    refine z_inv (2 ^ c) (fun n v (E : zD) => fn_X2_largest_39 a (nI c) (nI d) n (nI (2 ^ c)) (nI v) E) (fun v E => E.2 = D.2 ∧ (∀ b, gL E 93 b = gL D2 93 b) ∧ ∀ w, w < v → ∀ u, u < 64 → lb (gL E 95 w) u = apt c nc cv (2 * d) w u) _ ?_ ?_ 0 zFU D2 (Nat.zero_le _) (zfu_gt (by omega)) ⟨e1, fun _ => rfl, fun w hw => absurd hw (Nat.not_lt_zero _)⟩
    · intro n v E hv ⟨g1, g2, g3⟩ ih
      show zok (fn_X2_largest_39 a (nI c) (nI d) (n + 1) (nI (2 ^ c)) (nI v) E) _
      rw [fn_X2_largest_39, if_neg (nI_ge hv (by omega)), if_neg (show ¬ (64 : Int32) ≤ nI v from nI_ge (b := 64) (by omega) (by omega)), zck_nI (by omega) (by omega), nI_clamp (by omega), zlet_eq]
      refine z_inv (2 ^ c) (fun m j (F : zD) => fn_X2_largest_64 a (nI c) (nI d) (fn_X2_largest_39 a (nI c) (nI d) n) m (nI (2 ^ c)) (nI v) (nI j) F) (fun j F => F.2 = D.2 ∧ (∀ b, gL F 93 b = gL D2 93 b) ∧ (∀ w, w < v → ∀ u, u < 64 → lb (gL F 95 w) u = apt c nc cv (2 * d) w u) ∧ ∀ u, u < 64 → lb (gL F 95 v) u = (decide (u < j) && apt c nc cv (2 * d) v u)) _ ?_ ?_ 0 zFU (sL E 95 v 0) (Nat.zero_le _) (zfu_gt (by omega)) ⟨g1, fun b => by rw [gL_na (by omega)]; exact g2 b, fun w hw u hu => by rw [gL_nb (by omega)]; exact g3 w hw u hu, fun u hu => by rw [gL_eq, l_0, decide_eq_false (Nat.not_lt_zero _), Bool.false_and]⟩
      · intro m j F hj ⟨k1, k2, k3, k4⟩ ih2
        show zok (fn_X2_largest_64 a (nI c) (nI d) (fn_X2_largest_39 a (nI c) (nI d) n) (m + 1) (nI (2 ^ c)) (nI v) (nI j) F) _
        have jj := nEq j v (by omega) (by omega)
        have same : apt c nc cv (2 * d) v j = false → zok (fn_X2_largest_64 a (nI c) (nI d) (fn_X2_largest_39 a (nI c) (nI d) n) m (nI (2 ^ c)) (nI v) (nI (j + 1)) F) fun q => sp_mo c nc cv (2 * d) q.1 ∧ ag pMo D q.2 := fun hf => ih2 F ⟨k1, k2, k3, fun u hu => by
          rw [k4 u hu]
          by_cases e : u = j
          · rw [e, hf, Bool.and_false, Bool.and_false]
          · congr 1
            rw [decide_eq_decide]; omega⟩
        rw [fn_X2_largest_64, if_neg (nI_ge hj (by omega)), nI_1]
        by_cases q1 : j = v
        · rw [if_pos (jj.mpr q1)]
          exact same (by rw [q1]; exact apt_irr hn.1 v)
        · have hx : v ^^^ j < 2 ^ c := Nat.xor_lt_two_pow hv hj
          have hx0 : v ^^^ j ≠ 0 := by
            intro r
            have := (x_sw v j 0).mpr r
            rw [Nat.xor_zero] at this
            exact q1 this.symm
          have e5 : lr F 93 (v ^^^ j) = cfx nc cv (2 * d) (nI (v ^^^ j)) := by
            rw [lr_cong (D := D2) k2, e2 _ (by omega), decide_eq_true (by omega), Bool.true_and]
          have e6 : apt c nc cv (2 * d) v j = !cfx nc cv (2 * d) (nI (v ^^^ j)) := by
            unfold apt
            rw [decide_eq_true hv, decide_eq_true hj, nx_xor]; rfl
          rw [if_neg (fun r => q1 (jj.mp r)), nx_xor, c_has (by omega), Option.bind_some, e5]
          cases q2 : cfx nc cv (2 * d) (nI (v ^^^ j))
          · rw [if_pos (show bI false = 0 from rfl), zck_nI (by omega) (by omega), zck_nI (by omega) (by omega), nI_clamp (by omega), zlet_eq]
            refine ih2 _ ⟨k1, fun b => by rw [gL_na (by omega)]; exact k2 b, fun w hw u hu => by rw [gL_nb (by omega)]; exact k3 w hw u hu, fun u hu => ?_⟩
            rw [gL_eq, l_or, l_bit j (by omega) u hu, k4 u hu]
            by_cases e : u = j
            · rw [e, e6, q2, decide_eq_true rfl, Bool.or_true, decide_eq_true (Nat.lt_succ_self _)]; rfl
            · rw [decide_eq_false e, Bool.or_false]
              congr 1
              rw [decide_eq_decide]; omega
          · rw [if_neg (show ¬ bI true = 0 by decide)]
            exact same (by rw [e6, q2]; rfl)
      · intro m F ⟨k1, k2, k3, k4⟩
        show zok (fn_X2_largest_64 a (nI c) (nI d) (fn_X2_largest_39 a (nI c) (nI d) n) (m + 1) (nI (2 ^ c)) (nI v) (nI (2 ^ c)) F) _
        rw [fn_X2_largest_64, if_pos (nI_le (Nat.le_refl _) (by omega)), nI_1]
        refine ih F ⟨k1, k2, fun w hw u hu => ?_⟩
        by_cases e : w = v
        · rw [e, k4 u hu]
          by_cases g : u < 2 ^ c
          · rw [decide_eq_true g, Bool.true_and]
          · rw [decide_eq_false g, Bool.false_and]
            unfold apt
            rw [decide_eq_false g, Bool.and_false, Bool.false_and]
        · exact k3 w (by omega) u hu
    · intro n E ⟨g1, g2, g3⟩
      show zok (fn_X2_largest_39 a (nI c) (nI d) (n + 1) (nI (2 ^ c)) (nI (2 ^ c)) E) _
      rw [fn_X2_largest_39, if_pos (nI_le (Nat.le_refl _) (by omega))]
      unfold fn_X2_largest_119
      have gE' : ∀ u v, gI E u v = gI D u v := fun u v => by show E.2 u v = D.2 u v; rw [g1]
      have hl : fn_X3_largest a (sI E 92 4 1) = some (nI (pc (cv k0))) := by
        obtain ⟨k1, hk1, h1, h2⟩ := c_largestOf2 (D := sI E 92 4 1) (a := a) (nc := nc) (by rw [gI_na (by omega), gE', h]) hn
        rw [h1]
        have e7 : gI (sI E 92 4 1) (a + 1) = cv := by rw [gIf (by omega), ← hcv]; exact funext fun b => gE' _ _
        rw [e7] at h2 ⊢
        have := h2 k0 hk0
        have := hmax k1 hk1
        rw [show pc (cv k1) = pc (cv k0) by omega]
      rw [zlet_eq, hl, Option.bind_some, b1, Option.bind_some, zdv_nI (by omega) (by omega), nDn _ _ (by omega) (by omega) (by omega), zlet_eq]
      have hrow0 := g3 0 (by omega)
      have apN : ∀ u v, apt c nc cv (2 * d) u v = true → u < 2 ^ c ∧ v < 2 ^ c := fun u v r => by
        unfold apt at r
        rw [Bool.and_eq_true, Bool.and_eq_true, decide_eq_true_eq, decide_eq_true_eq] at r
        exact ⟨r.1.1, r.1.2⟩
      have hl64 := lct_le (gL E 95 0)
      refine (c_grow (A := apt c nc cv (2 * d)) apt_sym (apt_irr hn.1) (lim := 2 ^ c / B) hl33 100 (gL E 95 0) 1 1 (sI (sI E 92 4 1) 92 5 (nI (2 ^ c / B))) (by omega) (by omega) (by omega) (by rw [gI_nb (by omega), gI_eq]; rfl) gI_eq (fun k hk => hlim k (CL_sub k (fun u hu r => by rw [← hrow0 u hu]; exact r) hk)) (fun v hv u hu => ?_)).bind fun F ⟨b', f1, f2, f3⟩ => ?_
      · have hv64 := lb_lt hv
        rw [hrow0 v hv64] at hv
        exact g3 v (apN _ _ hv).2 u hu
      · rw [zok_some]
        refine ⟨by show sp_mo c nc cv (2 * d) (gI F 92 4); rw [f1]; exact gQ_mo (by omega) hn.1 hrow0 f2, fun x y hxy => ?_⟩
        show gI F x y = gI D x y
        rw [f3.1 x y (by unfold pMo at hxy; unfold pG; omega), gI_na (by unfold pMo at hxy; omega), gI_na (by unfold pMo at hxy; omega), gE']
end M92
