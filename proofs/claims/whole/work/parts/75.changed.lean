/-! THE MATHEMATICS: the class's changed cells -/
section M75
variable {D : zD} {P : Nat → Nat} {nc e c ns : Nat} {cv : Nat → Int32}
theorem clr_prA {pt : Nat → Int32} : clr ns nc cv e pt ↔ prA ns nc cv e pt = 0 := by
  unfold clr prA
  rw [prs_zero]
  constructor
  · intro h i j hi hj
    exact h i j hi (by omega) (by omega)
  · intro h i j hi hj hij
    rcases Nat.lt_or_ge j i with g | g
    · exact h i j hi g
    · rw [cfp_sym]; exact h j i hj (by omega)
theorem split_ix {x s c : Nat} (h : x < (s + 1) * c) : x < s * c ∨ ∃ i, i < c ∧ x = s * c + i := by
  rw [Nat.succ_mul] at h
  rcases Nat.lt_or_ge x (s * c) with g | g
  · exact Or.inl g
  · exact Or.inr ⟨x - s * c, by omega, by omega⟩
theorem ix_lt {s i c ns : Nat} (hs : s < ns) (hi : i < c) : s * c + i < ns * c := by
  have : (s + 1) * c ≤ ns * c := Nat.mul_le_mul_right _ hs
  rw [Nat.succ_mul] at this
  omega
theorem fl1_ix {pt : Nat → Int32} {s i : Nat} (hi : i < c) : fl1 c pt (s * c + i) = flp pt s i := by unfold fl1; rw [dm1 hi, dm2 hi]
theorem c_cures {a : Nat} {pt : Nat → Int32} (hn : ns ≤ 12) (hc30 : c < 31) (h : tg a c ns nc cv e pt D) {s : Nat} (hs : s < ns) : ∃ z, fn_X10_curesOf a (nI s) D = some z ∧ un z < 2 ^ c ∧ ∀ i, i < c → (bt z i = true ↔ clr ns nc cv e (flp pt s i)) := by
  have h' := h
  obtain ⟨⟨h1, h2, h3, h4⟩, h5, h6, h7⟩ := tg_to h
  have isS : fn_X10_isSign a (nI s) D = some 1 := by
    unfold fn_X10_isSign
    rw [h1]
    simp (disch := omega) only [Option.bind_some, Option.map_some, zlet_eq, ↓reduceIte, L_2, L_3, L_4, L_5, L_6, L_7, L_8, L_9, L_10, L_12, L_13, L_20, L_24, L_25, L_26, L_27, L_30, L_32, L_33, L_34, L_40, L_48, L_57, L_58, L_60, L_64, L_90, L_93, L_97, L_99, L_100, L_122, L_144, L_255, L_364, L_480, L_500, L_800, L_1000, L_100000, L_4096, L_1023, L_1024, nLe, nLt, nEq, nI_1, nI_add, pk_mul, nSn, nDn, nCl, zck_nI, zdv_nI, nNeg, nLe0, n0Lt, nEq0, nM1, m1N, m1Lt, nLm1, zcb_0, zcb_1, i10, i01, nEq1, n1Eq, nLt1, gI_eq, gI_nb, gI_na, x_badF, x_badT1, x_badT2, bt_0, bt_1, bit1_u, Bool.true_eq_false, Bool.false_eq_true, eq_self, Int32.or_zero, L_11, L_14, L_15, L_16, L_17, L_18, L_19, L_21, L_22, L_23, L_28, L_29, if_pos, if_neg]
  have hdl := deg_le (nc := nc) (cv := cv) (e := e) (pt := pt) hs
  have hpl := prA_le (nc := nc) (cv := cv) (e := e) (pt := pt) hn
  have hf := fun i => prA_flp (nc := nc) (cv := cv) (e := e) (pt := pt) (k := i) hs
  unfold fn_X10_curesOf
  rw [isS, Option.bind_some, if_neg (by decide), c_degree hn h' hs, Option.bind_some, h4, offd_prs]
  by_cases g : prA ns nc cv e pt = fb_ct (offd nc cv e pt s) ns
  · rw [if_pos (by rw [g])]
    have e1 := z_for ns (fun n o (v : Int32) => fn_X10_curesOf_26 a (nI s) D n v (nI o)) (fun o v => if o = s then v else v ||| gI D (a + 3) (s * 12 + o)) (fun v => fn_X10_curesOf_65 a (nI s) D v) ?_ ?_ 0 zFU 0 (Nat.zero_le _) (zfu_gt (by omega))
    · rw [show fn_X10_curesOf_26 a (nI s) D zFU 0 0 = _ from e1]
      unfold fn_X10_curesOf_65 fn_X10_board
      rw [h2, Option.bind_some, bit1_u, bd_eq2 c hc30]
      refine ⟨_, rfl, un_and (by omega) (by
        have := Nat.two_pow_pos c
        have : 2 ^ c ≤ 2 ^ 30 := Nat.pow_le_pow_right (by decide) (by omega)
        rw [un_nI (by omega)]; omega), fun i hi => ?_⟩
      rw [b_and, bt_bd (by omega), decide_eq_true hi, Bool.true_and, bt_not _ (by omega), clr_prA]
      have hz : ∀ m, m ≤ ns → (bt (zfo (fun o v => if o = s then v else v ||| gI D (a + 3) (s * 12 + o)) m 0 0) i = true ↔ ∃ o, o < m ∧ offd nc cv e (flp pt s i) s o = true) := by
        intro m
        induction m with
        | zero => intro _; exact ⟨fun q => (by rw [show zfo (fun o v => if o = s then v else v ||| gI D (a + 3) (s * 12 + o)) 0 0 (0 : Int32) = 0 from rfl, b_0] at q; cases q), fun ⟨o, ho, _⟩ => (by omega)⟩
        | succ m ih =>
          intro hm
          rw [zfo_last, Nat.zero_add]
          have ih := ih (by omega)
          by_cases q : m = s
          · rw [if_pos q, ih]
            constructor
            · rintro ⟨o, ho, r⟩
              exact ⟨o, by omega, r⟩
            · rintro ⟨o, ho, r⟩
              refine ⟨o, ?_, r⟩
              rcases Nat.lt_or_eq_of_le (Nat.le_of_lt_succ ho) with g1 | g1
              · exact g1
              · subst g1; subst q; rw [offd_d] at r; cases r
          · rw [if_neg q, b_or, Bool.or_eq_true, ih, h7 s m hs (by omega) (by omega) trivial i hi]
            have hof : offd nc cv e (flp pt s i) s m = cfx nc cv e ((pt s ^^^ pt m) ^^^ bit1 i) := by
              rw [← flp_row q]
              unfold offd
              rw [decide_eq_false q]
              rfl
            rw [← hof]
            constructor
            · rintro (⟨o, ho, r⟩ | r)
              · exact ⟨o, by omega, r⟩
              · exact ⟨m, by omega, r⟩
            · rintro ⟨o, ho, r⟩
              rcases Nat.lt_or_eq_of_le (Nat.le_of_lt_succ ho) with g1 | g1
              · exact Or.inl ⟨o, g1, r⟩
              · subst g1; exact Or.inr r
      have hz := hz ns (Nat.le_refl _)
      rw [Nat.sub_zero]
      have hfi := hf i
      rw [show prA ns nc cv e (flp pt s i) = fb_ct (offd nc cv e (flp pt s i) s) ns by omega, fb_ct_zero]
      constructor
      · intro q o ho
        cases hq : offd nc cv e (flp pt s i) s o
        · rfl
        · rw [hz.mpr ⟨o, ho, hq⟩] at q
          cases q
      · intro q
        cases hq : bt (zfo (fun o v => if o = s then v else v ||| gI D (a + 3) (s * 12 + o)) ns 0 0) i
        · rfl
        · obtain ⟨o, ho, r⟩ := hz.mp hq
          rw [q o ho] at r
          cases r
    · intro n o v ho
      show fn_X10_curesOf_26 a (nI s) D (n + 1) v (nI o) = fn_X10_curesOf_26 a (nI s) D n _ (nI (o + 1))
      rw [fn_X10_curesOf_26, h1, if_neg (nI_ge ho (by omega)), if_neg (show ¬ (12 : Int32) ≤ nI o from nI_ge (b := 12) (by omega) (by omega)), nI_1]
      by_cases q : o = s
      · subst q
        rw [if_pos rfl, if_pos rfl]
      · rw [if_neg (fun r => q ((nI_eq (by omega) (by omega)).mp r)), if_neg q, show nI s * (12 : Int32) = nI (s * 12) from pk_mul s 12, nI_add, zck_nI (by omega) (by omega), nI_clamp (by omega), zlet_eq]
    · intro n v
      show fn_X10_curesOf_26 a (nI s) D (n + 1) v (nI ns) = _
      rw [fn_X10_curesOf_26, h1, if_pos (nI_le (Nat.le_refl _) (by omega))]
  · rw [if_neg (fun q => g ((nI_eq (by omega) (by omega)).mp q))]
    refine ⟨0, rfl, Nat.two_pow_pos c, fun i hi => ?_⟩
    rw [b_0, clr_prA]
    have hfi := hf i
    exact ⟨fun q => (by cases q), fun q => (by omega)⟩
/-- the lowest of a set that is not empty -/
theorem low_of {z : Int32} (hc30 : c < 31) (hz : un z < 2 ^ c) (h0 : z ≠ 0) : ∃ k, k < c ∧ bt z k = true ∧ (∀ i, i < k → bt z i = false) ∧ fn_X11_lowestOf z = some (nI k) := by
  obtain ⟨k, q, hk, e1⟩ := p_low32 h0
  have hb : bt z k = true := by rw [bt_un, e1, p_lowb]; simp
  have hl : ∀ i, i < k → bt z i = false := fun i hi => by rw [bt_un, e1, p_lowb, if_pos hi]
  refine ⟨k, ?_, hb, hl, z_lowestOf hk hb hl⟩
  rcases Nat.lt_or_ge k c with g | g
  · exact g
  · rw [(un_iff (by omega)).mp hz k g hk] at hb
    cases hb
theorem none_of {z : Int32} (h : z = 0) (i : Nat) : bt z i = false := by rw [h, b_0]
theorem c_byOne {pt : Nat → Int32} (hn : ns ≤ 12) (hc30 : c < 31) (h : tg 81 c ns nc cv e pt D) : zok (fn_X6_byOne 81 D) fun q => (q.1 = 0 ∧ q.2 = D ∧ ∀ x, x < ns * c → ¬ clr ns nc cv e (fl1 c pt x)) ∨ (q.1 = 1 ∧ ∃ x, x < ns * c ∧ clr ns nc cv e (fl1 c pt x) ∧ (∀ y, y < x → ¬ clr ns nc cv e (fl1 c pt y)) ∧ q.2 = sI (sI D 85 1 1) 85 2 (nI (100 * (x / c) + x % c))) := by
  refine z_inv ns (fun n s (_ : Unit) => fn_X6_byOne_2 81 n (nI s) D) (fun s _ => ∀ x, x < s * c → ¬ clr ns nc cv e (fl1 c pt x)) _ ?_ ?_ 0 zFU () (Nat.zero_le _) (zfu_gt (by omega)) (fun x hx => by omega)
  · intro n s _ hs hI ih
    show zok (fn_X6_byOne_2 81 (n + 1) (nI s) D) _
    obtain ⟨z, z1, z2, z3⟩ := c_cures hn hc30 h hs
    rw [fn_X6_byOne_2, h.1, if_neg (nI_ge hs (by omega)), z1, Option.bind_some]
    by_cases q : z = 0
    · rw [if_pos q, nI_1]
      refine ih () fun x hx => ?_
      rcases split_ix hx with g | ⟨i, hi, rfl⟩
      · exact hI x g
      · rw [fl1_ix hi, ← z3 i hi, none_of q]
        decide
    · rw [if_neg q]
      obtain ⟨k, k1, k2, k3, k4⟩ := low_of hc30 z2 q
      unfold fn_X6_byOne_20
      rw [k4, zlet_eq, Option.bind_some, zlet_eq, zok_some]
      refine Or.inr ⟨rfl, s * c + k, ix_lt hs k1, ?_, fun y hy => ?_, ?_⟩
      · rw [fl1_ix k1]
        exact (z3 k k1).mp k2
      · rcases Nat.lt_or_ge y (s * c) with g | g
        · exact hI y g
        · obtain ⟨i, rfl⟩ : ∃ i, y = s * c + i := ⟨y - s * c, by omega⟩
          rw [fl1_ix (by omega), ← z3 i (by omega), k3 i (by omega)]
          decide
      · rw [dm1 k1, dm2 k1, show (100 : Int32) * nI s = nI (100 * s) from pk_mul 100 s, nI_add]
  · intro n _ hI
    show zok (fn_X6_byOne_2 81 (n + 1) (nI ns) D) _
    rw [fn_X6_byOne_2, h.1, if_pos (nI_le (Nat.le_refl _) (by omega)), zok_some]
    exact Or.inl ⟨rfl, rfl, hI⟩
theorem two_neg : ∀ i, i < 30 → ∀ k, k < 31 → bt (-((2 : Int32) <<< (nI i &&& 31))) k = decide (i < k) := by decide +kernel
theorem c_ends {qt : Nat → Int32} (hn : ns ≤ 12) (hc30 : c < 31) (h : tg 86 c ns nc cv e qt D) {s i : Nat} (hs : s < ns) (hi : i < c) : zok (fn_X6_endsBehind (nI s) (nI i) D) fun q => (q.1 = 0 ∧ q.2 = D ∧ ∀ y, s * c + i < y → y < ns * c → ¬ clr ns nc cv e (fl1 c qt y)) ∨ (q.1 = 1 ∧ ∃ y, s * c + i < y ∧ y < ns * c ∧ clr ns nc cv e (fl1 c qt y) ∧ (∀ v, s * c + i < v → v < y → ¬ clr ns nc cv e (fl1 c qt v)) ∧ q.2 = sI D 85 3 (nI (100 * (y / c) + y % c))) := by
  refine z_inv ns (fun n o (_ : Unit) => fn_X6_endsBehind_2 (nI s) (nI i) n (nI o) D) (fun o _ => s ≤ o ∧ ∀ y, s * c + i < y → y < o * c → ¬ clr ns nc cv e (fl1 c qt y)) _ ?_ ?_ s zFU () (by omega) (zfu_gt (by omega)) ⟨Nat.le_refl _, fun y h1 h2 => by omega⟩
  · intro n o _ ho ⟨hso, hI⟩ ih
    show zok (fn_X6_endsBehind_2 (nI s) (nI i) (n + 1) (nI o) D) _
    obtain ⟨z, z1, z2, z3⟩ := c_cures hn hc30 h ho
    have hmono : s * c ≤ o * c := Nat.mul_le_mul_right _ hso
    -- y is the set that counts
    have fin : ∀ y : Int32, un y < 2 ^ c → (∀ k, k < c → (bt y k = true ↔ (s * c + i < o * c + k ∧ clr ns nc cv e (flp qt o k)))) → zok (fn_X6_endsBehind_37 (nI s) (nI i) (fn_X6_endsBehind_2 (nI s) (nI i) n) (nI o) y D) fun q => (q.1 = 0 ∧ q.2 = D ∧ ∀ y, s * c + i < y → y < ns * c → ¬ clr ns nc cv e (fl1 c qt y)) ∨ (q.1 = 1 ∧ ∃ y, s * c + i < y ∧ y < ns * c ∧ clr ns nc cv e (fl1 c qt y) ∧ (∀ v, s * c + i < v → v < y → ¬ clr ns nc cv e (fl1 c qt v)) ∧ q.2 = sI D 85 3 (nI (100 * (y / c) + y % c))) := by
      intro y hy hyb
      unfold fn_X6_endsBehind_37
      by_cases q : y = 0
      · rw [if_pos q, nI_1]
        refine ih () ⟨by omega, fun x hx hx2 hcl => ?_⟩
        rcases split_ix hx2 with g | ⟨k, hk, rfl⟩
        · exact hI x hx g hcl
        · rw [fl1_ix hk] at hcl
          have := (hyb k hk).mpr ⟨hx, hcl⟩
          rw [none_of q] at this
          cases this
      · rw [if_neg q]
        obtain ⟨k, k1, k2, k3, k4⟩ := low_of hc30 hy q
        unfold fn_X6_endsBehind_42
        rw [k4, Option.bind_some, zlet_eq, zok_some]
        obtain ⟨m1, m2⟩ := (hyb k k1).mp k2
        refine Or.inr ⟨rfl, o * c + k, m1, ix_lt ho k1, ?_, fun v hv1 hv2 hcl => ?_, ?_⟩
        · rw [fl1_ix k1]; exact m2
        · rcases Nat.lt_or_ge v (o * c) with g | g
          · exact hI v hv1 g hcl
          · obtain ⟨j, rfl⟩ : ∃ j, v = o * c + j := ⟨v - o * c, by omega⟩
            rw [fl1_ix (by omega)] at hcl
            have := (hyb j (by omega)).mpr ⟨hv1, hcl⟩
            rw [k3 j (by omega)] at this
            cases this
        · rw [dm1 k1, dm2 k1, show (100 : Int32) * nI o = nI (100 * o) from pk_mul 100 o, nI_add]
    rw [fn_X6_endsBehind_2, h.1, if_neg (nI_ge ho (by omega)), z1, Option.bind_some]
    by_cases q : o = s
    · subst q
      rw [if_pos rfl, zlet_eq]
      refine fin _ (un_and (by omega) z2) fun k hk => ?_
      rw [b_and, two_neg i (by omega) k (by omega), Bool.and_eq_true, z3 k hk, decide_eq_true_eq]
      constructor
      · rintro ⟨r1, r2⟩; exact ⟨by omega, r1⟩
      · rintro ⟨r1, r2⟩; exact ⟨r2, by omega⟩
    · rw [if_neg (fun r => q ((nI_eq (by omega) (by omega)).mp r))]
      have h2 : (s + 1) * c ≤ o * c := Nat.mul_le_mul_right _ (by omega)
      rw [Nat.succ_mul] at h2
      refine fin z z2 fun k hk => ?_
      rw [z3 k hk]
      exact ⟨fun r => ⟨by omega, r⟩, fun r => r.2⟩
  · intro n _ ⟨hso, hI⟩
    show zok (fn_X6_endsBehind_2 (nI s) (nI i) (n + 1) (nI ns) D) _
    rw [fn_X6_endsBehind_2, h.1, if_pos (nI_le (Nat.le_refl _) (by omega)), zok_some]
    exact Or.inl ⟨rfl, rfl, hI⟩
/-- two signs hold all pairs -/
theorem two_hold {pt : Nat → Int32} {s o : Nat} (hs : s < ns) (ho : o < ns) (hso : s ≠ o) : prA ns nc cv e pt + (if offd nc cv e pt s o = true then 1 else 0) = fb_ct (offd nc cv e pt s) ns + fb_ct (offd nc cv e pt o) ns + prs ns (cut (cut (offd nc cv e pt) s) o) := by
  have h1 := prs_cut hs (offd_sym (nc := nc) (cv := cv) (e := e) pt) (offd_d pt s)
  rw [offd_prs] at h1
  have hcs : ∀ i j, cut (offd nc cv e pt) s i j = cut (offd nc cv e pt) s j i := fun i j => by
    unfold cut
    rw [offd_sym pt i j]
    congr 1
    exact decide_eq_decide.mpr ⟨fun q => ⟨q.2, q.1⟩, fun q => ⟨q.2, q.1⟩⟩
  have h2 := prs_cut (f := cut (offd nc cv e pt) s) ho hcs (by unfold cut; rw [offd_d]; rfl)
  have h3 := fb_ct_upd (offd nc cv e pt o) false (i := s) (n := ns) hs
  have h4 : fb_ct (cut (offd nc cv e pt) s o) ns = fb_ct (fun k => if k = s then false else offd nc cv e pt o k) ns := fb_ct_cong fun k hk => by
    unfold cut
    by_cases q : k = s
    · rw [if_pos q, decide_eq_false (by omega), Bool.and_false]
    · rw [if_neg q, decide_eq_true ⟨by omega, q⟩, Bool.and_true]
  rw [if_neg (show ¬ (false = true) by decide), offd_sym pt o s] at h3
  omega
theorem c_hangs {a : Nat} {pt : Nat → Int32} (hn : ns ≤ 12) (h : tg a c ns nc cv e pt D) {s : Nat} (hs : s < ns) : ∃ r, fn_X10_hangsOn a (nI s) D = some r ∧ (r = 0 → ∀ o, o < ns → o ≠ s → 0 < prs ns (cut (cut (offd nc cv e pt) s) o)) := by
  have h' := h
  obtain ⟨⟨h1, h2, h3, h4⟩, h5, h6, h7⟩ := tg_to h
  have isS : fn_X10_isSign a (nI s) D = some 1 := by
    unfold fn_X10_isSign
    rw [h1]
    simp (disch := omega) only [Option.bind_some, Option.map_some, zlet_eq, ↓reduceIte, L_2, L_3, L_4, L_5, L_6, L_7, L_8, L_9, L_10, L_12, L_13, L_20, L_24, L_25, L_26, L_27, L_30, L_32, L_33, L_34, L_40, L_48, L_57, L_58, L_60, L_64, L_90, L_93, L_97, L_99, L_100, L_122, L_144, L_255, L_364, L_480, L_500, L_800, L_1000, L_100000, L_4096, L_1023, L_1024, nLe, nLt, nEq, nI_1, nI_add, pk_mul, nSn, nDn, nCl, zck_nI, zdv_nI, nNeg, nLe0, n0Lt, nEq0, nM1, m1N, m1Lt, nLm1, zcb_0, zcb_1, i10, i01, nEq1, n1Eq, nLt1, gI_eq, gI_nb, gI_na, x_badF, x_badT1, x_badT2, bt_0, bt_1, bit1_u, Bool.true_eq_false, Bool.false_eq_true, eq_self, Int32.or_zero, L_11, L_14, L_15, L_16, L_17, L_18, L_19, L_21, L_22, L_23, L_28, L_29, if_pos, if_neg]
  have hpl := prA_le (nc := nc) (cv := cv) (e := e) (pt := pt) hn
  have main : zok (fn_X10_hangsOn a (nI s) D) fun r => (r = 0 → ∀ o, o < ns → o ≠ s → 0 < prs ns (cut (cut (offd nc cv e pt) s) o)) := by
    refine z_inv ns (fun n o (_ : Unit) => fn_X10_hangsOn_2 a (nI s) D n (nI o)) (fun o _ => ∀ t, t < o → t ≠ s → 0 < prs ns (cut (cut (offd nc cv e pt) s) t)) _ ?_ ?_ 0 zFU () (Nat.zero_le _) (zfu_gt (by omega)) (fun t ht => by omega)
    · intro n o _ ho hI ih
      show zok (fn_X10_hangsOn_2 a (nI s) D (n + 1) (nI o)) _
      rw [fn_X10_hangsOn_2, h1, if_neg (nI_ge ho (by omega)), isS, Option.bind_some, if_neg (by decide), zck_nI (by omega) (by omega), nI_clamp (by omega), z_shr1 _ (by omega), h6 s hs o (by omega), decide_eq_true ho, Bool.true_and]
      unfold fn_X10_hangsOn_32
      by_cases q : o = s
      · subst q
        rw [if_pos rfl, nI_1]
        exact ih () fun t ht hts => hI t (by omega) hts
      · rw [if_neg (fun r => q ((nI_eq (by omega) (by omega)).mp r)), c_degree hn h' hs, Option.bind_some, c_degree hn h' ho, Option.bind_some, h4, offd_prs]
        have hth := two_hold (nc := nc) (cv := cv) (e := e) (pt := pt) hs ho (by omega)
        have hl1 := fb_ct_le (offd nc cv e pt s) ns
        have hl2 := fb_ct_le (offd nc cv e pt o) ns
        have hpos : offd nc cv e pt s o = true → 0 < fb_ct (offd nc cv e pt s) ns := fun r => fb_ct_pos.mpr ⟨o, ho, r⟩
        have ew : nI (fb_ct (offd nc cv e pt s) ns) + nI (fb_ct (offd nc cv e pt o) ns) - (if offd nc cv e pt s o = true then (1 : Int32) else 0) = nI (fb_ct (offd nc cv e pt s) ns + fb_ct (offd nc cv e pt o) ns - if offd nc cv e pt s o = true then 1 else 0) := by
          rw [nI_add]
          cases hB : offd nc cv e pt s o
          · rw [if_neg (by decide), if_neg (by decide), Int32.sub_zero]
            rfl
          · have := hpos hB
            rw [if_pos rfl, if_pos rfl, nS1 _ (by omega)]
        rw [ew]
        by_cases g : prA ns nc cv e pt = fb_ct (offd nc cv e pt s) ns + fb_ct (offd nc cv e pt o) ns - if offd nc cv e pt s o = true then 1 else 0
        · rw [if_pos (by rw [g]), zok_some]
          intro r
          cases r
        · rw [if_neg (fun r => g ((nI_eq (by omega) (by omega)).mp r)), nI_1]
          refine ih () fun t ht hts => ?_
          by_cases q2 : t = o
          · subst q2
            cases hB : offd nc cv e pt s t
            · rw [hB, if_neg (by decide)] at hth g
              omega
            · have := hpos hB
              rw [hB, if_pos rfl] at hth g
              omega
          · exact hI t (by omega) hts
    · intro n _ hI
      show zok (fn_X10_hangsOn_2 a (nI s) D (n + 1) (nI ns)) _
      rw [fn_X10_hangsOn_2, h1, if_pos (nI_le (Nat.le_refl _) (by omega)), zok_some]
      exact fun _ => hI
  obtain ⟨r, r1, r2⟩ := main
  exact ⟨r, r1, r2⟩
/-- with cells of s and o changed, what has neither stands -/
theorem cut_stands {pt : Nat → Int32} {s o i j : Nat} (h : clr ns nc cv e (flp (flp pt s i) o j)) : prs ns (cut (cut (offd nc cv e pt) s) o) = 0 := by
  rw [prs_zero]
  intro a b ha hb
  unfold cut
  by_cases q : a ≠ s ∧ b ≠ s
  · by_cases q2 : a ≠ o ∧ b ≠ o
    · have := h a b ha (by omega) (by omega)
      unfold cfp flp at this
      rw [if_neg q2.1, if_neg q2.2, if_neg q.1, if_neg q.2] at this
      unfold offd cfp
      rw [this]
      simp
    · rw [decide_eq_false q2, Bool.and_false]
  · rw [decide_eq_false q, Bool.and_false, Bool.false_and]
theorem cut2_le {f : Nat → Nat → Bool} {s o : Nat} (h : prs ns (cut (cut f s) s) = 0) : prs ns (cut (cut f s) o) = 0 := by
  rw [prs_zero] at h ⊢
  intro a b ha hb
  have := h a b ha hb
  unfold cut at this ⊢
  by_cases q : a ≠ s ∧ b ≠ s
  · rw [decide_eq_true q, Bool.and_true, Bool.and_true] at this
    rw [this, Bool.false_and, Bool.false_and]
  · rw [decide_eq_false q, Bool.and_false, Bool.false_and]
theorem c_byTwo {pt : Nat → Int32} (hc : hcv nc c cv D) (hc0 : 0 < c) (hc30 : c < 31) (he : e < 100) (hn : ns ≤ 12) (hpt : ∀ s, s < ns → un (pt s) < 2 ^ c) (h : tg 81 c ns nc cv e pt D) (hncl : ¬ clr ns nc cv e pt) : zok (fn_X6_byTwo 81 D) fun E => ag pTr D E ∧ ((gI E 85 1 = gI D 85 1 ∧ gI E 85 2 = gI D 85 2 ∧ gI E 85 3 = gI D 85 3 ∧ ∀ u v, u < v → v < ns * c → ¬ clr ns nc cv e (fl1 c (fl1 c pt u) v)) ∨ ∃ x y, x < y ∧ y < ns * c ∧ clr ns nc cv e (fl1 c (fl1 c pt x) y) ∧ (∀ u v, u < v → v < ns * c → (u < x ∨ (u = x ∧ v < y)) → ¬ clr ns nc cv e (fl1 c (fl1 c pt u) v)) ∧ gI E 85 1 = 2 ∧ gI E 85 2 = nI (100 * (x / c) + x % c) ∧ gI E 85 3 = nI (100 * (y / c) + y % c)) := by
  have hns := nsc hn (show c ≤ 30 by omega)
  have h2s : 2 ≤ ns := by
    apply Classical.byContradiction
    intro q
    exact hncl fun i j hi hj hij => by omega
  refine z_inv ns (fun n s (E : zD) => fn_X6_byTwo_10 81 n (nI s) E) (fun s E => ag pTr D E ∧ (∀ j, gI E 85 j = gI D 85 j) ∧ ∀ u v, u < s * c → u < v → v < ns * c → ¬ clr ns nc cv e (fl1 c (fl1 c pt u) v)) _ ?_ ?_ 0 zFU D (Nat.zero_le _) (zfu_gt (by omega)) ⟨ag.refl, fun _ => rfl, fun u v q => by omega⟩
  · intro n s E hs ⟨g1, g2, g3⟩ ih
    show zok (fn_X6_byTwo_10 81 (n + 1) (nI s) E) _
    have tE : tg 81 c ns nc cv e pt E := h.keep fun k j k1 k2 => g1 k j (by unfold pTr; omega)
    rw [fn_X6_byTwo_10, tE.1, if_neg (nI_ge hs (by omega))]
    refine z_inv c (fun m i (E : zD) => fn_X6_byTwo_20 81 (fn_X6_byTwo_10 81 n) m (nI s) (nI i) E) (fun i E => ag pTr D E ∧ (∀ j, gI E 85 j = gI D 85 j) ∧ ∀ u v, u < s * c + i → u < v → v < ns * c → ¬ clr ns nc cv e (fl1 c (fl1 c pt u) v)) _ ?_ ?_ 0 zFU E (Nat.zero_le _) (zfu_gt (by omega)) ⟨g1, g2, g3⟩
    · intro m i E hi ⟨k1, k2, k3⟩ ih2
      show zok (fn_X6_byTwo_20 81 (fn_X6_byTwo_10 81 n) (m + 1) (nI s) (nI i) E) _
      have tE : tg 81 c ns nc cv e pt E := h.keep fun k j k1' k2' => k1 k j (by unfold pTr; omega)
      obtain ⟨r, r1, r2⟩ := c_hangs hn tE hs
      rw [fn_X6_byTwo_20, tE.2.1, if_neg (nI_ge hi (by omega)), r1, Option.bind_some, nI_1, nI_1]
      by_cases q : r = 0
      · rw [if_pos q]
        refine ih E ⟨k1, k2, fun u v hu huv hv hcl => ?_⟩
        rcases split_ix hu with g | ⟨i2, hi2, rfl⟩
        · exact k3 u v (by omega) huv hv hcl
        · obtain ⟨d1, d2, d3, d4⟩ := dm3 hv
          rw [fl1_ix hi2] at hcl
          have hcs := cut_stands (s := s) (o := v / c) (i := i2) (j := v % c) hcl
          by_cases qq : v / c = s
          · rw [qq] at hcs
            obtain ⟨o, ho, hos⟩ : ∃ o, o < ns ∧ o ≠ s := by
              by_cases q0 : s = 0
              · exact ⟨1, by omega, by omega⟩
              · exact ⟨0, by omega, by omega⟩
            have := r2 q o ho hos
            rw [cut2_le hcs] at this
            omega
          · have := r2 q (v / c) d1 qq
            omega
      · rw [if_neg q]
        have hcE : hcv nc c cv E := ⟨hc.1, by rw [k1 _ _ (by unfold pTr; omega)]; exact hc.2.1, fun k hk => by rw [k1 _ _ (by unfold pTr; omega)]; exact hc.2.2.1 k hk, hc.2.2.2⟩
        · refine (c_copyT (a := 81) (b := 86) (by omega) hn tE).bind fun F ⟨f1, f2⟩ => ?_
          refine (c_flip (by omega) (hcE.keep f2 (by omega)) hc30 he hn hpt hs hi f1).bind fun G ⟨l1, l2⟩ => ?_
          have agG : ag (pOut 86) E G := f2.trans l2
          have e85 : ∀ j, gI G 85 j = gI D 85 j := fun j => by rw [agG _ _ (by unfold pOut; omega), k2 j]
          have agT : ag pTr D G := k1.trans (agG.mono (by unfold pTr pOut; intros; omega))
          refine (c_ends hn hc30 l1 hs hi).bind fun w hw => ?_
          rcases hw with ⟨w1, w2, w3⟩ | ⟨w1, y, y1, y2, y3, y4, y5⟩
          · rw [w1, if_pos rfl, w2]
            refine ih2 G ⟨agT, e85, fun u v hu huv hv hcl => ?_⟩
            rcases Nat.lt_or_ge u (s * c + i) with g | g
            · exact k3 u v g huv hv hcl
            · obtain rfl : u = s * c + i := by omega
              rw [fl1_ix hi] at hcl
              exact w3 v huv hv hcl
          · rw [w1, if_neg (by decide)]
            unfold fn_X6_byTwo_62
            rw [zlet_eq, zlet_eq, zok_some, y5]
            refine ⟨((agT.sI (by unfold pTr; omega)).sI (by unfold pTr; omega)).sI (by unfold pTr; omega), Or.inr ⟨s * c + i, y, y1, y2, ?_, fun u v huv hv hlt hcl => ?_, ?_, ?_, ?_⟩⟩
            · rw [fl1_ix hi]; exact y3
            · rcases hlt with g | ⟨rfl, g⟩
              · exact k3 u v g huv hv hcl
              · rw [fl1_ix hi] at hcl
                exact y4 v huv g hcl
            · simp (disch := omega) only [Option.bind_some, Option.map_some, zlet_eq, ↓reduceIte, L_2, L_3, L_4, L_5, L_6, L_7, L_8, L_9, L_10, L_12, L_13, L_20, L_24, L_25, L_26, L_27, L_30, L_32, L_33, L_34, L_40, L_48, L_57, L_58, L_60, L_64, L_90, L_93, L_97, L_99, L_100, L_122, L_144, L_255, L_364, L_480, L_500, L_800, L_1000, L_100000, L_4096, L_1023, L_1024, nLe, nLt, nEq, nI_1, nI_add, pk_mul, nSn, nDn, nCl, zck_nI, zdv_nI, nNeg, nLe0, n0Lt, nEq0, nM1, m1N, m1Lt, nLm1, zcb_0, zcb_1, i10, i01, nEq1, n1Eq, nLt1, gI_eq, gI_nb, gI_na, x_badF, x_badT1, x_badT2, bt_0, bt_1, bit1_u, Bool.true_eq_false, Bool.false_eq_true, eq_self, Int32.or_zero, L_11, L_14, L_15, L_16, L_17, L_18, L_19, L_21, L_22, L_23, L_28, L_29, if_pos, if_neg]
            · rw [gI_eq, dm1 hi, dm2 hi, show (100 : Int32) * nI s = nI (100 * s) from pk_mul 100 s, nI_add]
            · simp (disch := omega) only [Option.bind_some, Option.map_some, zlet_eq, ↓reduceIte, L_2, L_3, L_4, L_5, L_6, L_7, L_8, L_9, L_10, L_12, L_13, L_20, L_24, L_25, L_26, L_27, L_30, L_32, L_33, L_34, L_40, L_48, L_57, L_58, L_60, L_64, L_90, L_93, L_97, L_99, L_100, L_122, L_144, L_255, L_364, L_480, L_500, L_800, L_1000, L_100000, L_4096, L_1023, L_1024, nLe, nLt, nEq, nI_1, nI_add, pk_mul, nSn, nDn, nCl, zck_nI, zdv_nI, nNeg, nLe0, n0Lt, nEq0, nM1, m1N, m1Lt, nLm1, zcb_0, zcb_1, i10, i01, nEq1, n1Eq, nLt1, gI_eq, gI_nb, gI_na, x_badF, x_badT1, x_badT2, bt_0, bt_1, bit1_u, Bool.true_eq_false, Bool.false_eq_true, eq_self, Int32.or_zero, L_11, L_14, L_15, L_16, L_17, L_18, L_19, L_21, L_22, L_23, L_28, L_29, if_pos, if_neg]
    · intro m E ⟨k1, k2, k3⟩
      have tE : tg 81 c ns nc cv e pt E := h.keep fun k j k1' k2' => k1 k j (by unfold pTr; omega)
      show zok (fn_X6_byTwo_20 81 (fn_X6_byTwo_10 81 n) (m + 1) (nI s) (nI c) E) _
      rw [fn_X6_byTwo_20, tE.2.1, if_pos (nI_le (Nat.le_refl _) (by omega)), nI_1]
      exact ih E ⟨k1, k2, fun u v hu => k3 u v (by rw [Nat.succ_mul] at hu; exact hu)⟩
  · intro n E ⟨g1, g2, g3⟩
    have tE : tg 81 c ns nc cv e pt E := h.keep fun k j k1 k2 => g1 k j (by unfold pTr; omega)
    show zok (fn_X6_byTwo_10 81 (n + 1) (nI ns) E) _
    rw [fn_X6_byTwo_10, tE.1, if_pos (nI_le (Nat.le_refl _) (by omega)), zok_some]
    exact ⟨g1, Or.inl ⟨g2 1, g2 2, g2 3, fun u v huv hv => g3 u v (by omega) huv hv⟩⟩
end M75
