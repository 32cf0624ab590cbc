/-! THE MATHEMATICS: the class's pairs kept: settled, woven, flipped -/
section M68
variable {D : zD} {nc e c ns : Nat} {cv : Nat → Int32}
/-- the covers that are looked at -/
def hcv (nc c : Nat) (cv : Nat → Int32) (D : zD) : Prop := nc ≤ 500 ∧ gI D 20 1 = nI nc ∧ (∀ k, k < nc → gI D 21 k = cv k) ∧ ∀ k, k < nc → un (cv k) < 2 ^ c
theorem c_mixing (hc : hcv nc c cv D) (hc30 : c < 31) {x : Int32} (hx : un x < 2 ^ c) (he : e < 100) : ∃ z, fn_X3_mixingCells 20 x (nI e) (nI (2 ^ c - 1)) D = some z ∧ ∀ i, i < c → bt z i = cfx nc cv e (x ^^^ bit1 i) := by
  obtain ⟨h1, h2, h3, h4⟩ := hc
  have hp : 2 ^ c ≤ 2 ^ 30 := Nat.pow_le_pow_right (by decide) (by omega)
  have main : zok (fn_X3_mixingCells_6 20 x (nI e) (nI (2 ^ c - 1)) D zFU 0 0) fun z => ∀ i, i < c → (bt z i = true ↔ ∃ j, j < nc ∧ pc ((x ^^^ bit1 i) &&& (cv j ^^^ -1)) ≤ e) := by
    refine z_inv nc (fun n k (v : Int32) => fn_X3_mixingCells_6 20 x (nI e) (nI (2 ^ c - 1)) D n v (nI k)) (fun k v => un v < 2 ^ c ∧ ∀ i, i < c → (bt v i = true ↔ ∃ j, j < k ∧ pc ((x ^^^ bit1 i) &&& (cv j ^^^ -1)) ≤ e)) _ ?_ ?_ 0 zFU 0 (Nat.zero_le _) (zfu_gt (by omega)) ⟨Nat.two_pow_pos c, fun i _ => ⟨fun q => (by rw [b_0] at q; cases q), fun ⟨j, hj, _⟩ => (by omega)⟩⟩
    · intro n k v hk ⟨hv, hI⟩ ih
      show zok (fn_X3_mixingCells_6 20 x (nI e) (nI (2 ^ c - 1)) D (n + 1) v (nI k)) _
      have hb := pc_le (x &&& (cv k ^^^ -1))
      rw [fn_X3_mixingCells_6, h2, if_neg (nI_ge hk (by omega)), if_neg (show ¬ (500 : Int32) ≤ nI k from nI_ge (b := 500) (by omega) (by omega))]
      by_cases hall : v = nI (2 ^ c - 1)
      · rw [if_pos hall, zok_some]
        intro i hi
        constructor
        · intro q
          obtain ⟨j, hj, h⟩ := (hI i hi).mp q
          exact ⟨j, by omega, h⟩
        · intro _
          rw [hall, bt_bd (by omega)]
          exact decide_eq_true hi
      · rw [if_neg hall, zck_nI (by omega) (by omega), nI_clamp (by omega), show gI D (20 + 1) k = cv k from h3 k hk, pc_bit, Option.bind_some]
        have step : ∀ w, un w < 2 ^ c → (∀ i, i < c → (bt w i = true ↔ (bt v i = true ∨ pc ((x ^^^ bit1 i) &&& (cv k ^^^ -1)) ≤ e))) → zok (fn_X3_mixingCells_6 20 x (nI e) (nI (2 ^ c - 1)) D n w (nI (k + 1))) fun z => ∀ i, i < c → (bt z i = true ↔ ∃ j, j < nc ∧ pc ((x ^^^ bit1 i) &&& (cv j ^^^ -1)) ≤ e) := by
          intro w hw1 hw2
          refine ih w ⟨hw1, fun i hi => ?_⟩
          rw [hw2 i hi, hI i hi]
          constructor
          · rintro (⟨j, hj, h⟩ | h)
            · exact ⟨j, by omega, h⟩
            · exact ⟨k, by omega, h⟩
          · rintro ⟨j, hj, h⟩
            by_cases q : j = k
            · subst q; exact Or.inr h
            · exact Or.inl ⟨j, by omega, h⟩
        have huc := h4 k hk
        by_cases g1 : pc (x &&& (cv k ^^^ -1)) < e
        · simp (disch := omega) only [Option.bind_some, Option.map_some, zlet_eq, ↓reduceIte, L_2, L_3, L_4, L_5, L_6, L_7, L_8, L_9, L_10, L_12, L_13, L_20, L_24, L_25, L_26, L_27, L_30, L_32, L_33, L_34, L_40, L_48, L_57, L_58, L_60, L_64, L_90, L_93, L_97, L_99, L_100, L_122, L_144, L_255, L_364, L_480, L_500, L_800, L_1000, L_100000, L_4096, L_1023, L_1024, nLe, nLt, nEq, nI_1, nI_add, pk_mul, nSn, nDn, nCl, zck_nI, zdv_nI, nNeg, nLe0, n0Lt, nEq0, nM1, m1N, m1Lt, nLm1, zcb_0, zcb_1, i10, i01, nEq1, n1Eq, nLt1, gI_eq, gI_nb, gI_na, x_badF, x_badT1, x_badT2, bt_0, bt_1, bit1_u, Bool.true_eq_false, Bool.false_eq_true, eq_self, Int32.or_zero, L_11, L_14, L_15, L_16, L_17, L_18, L_19, L_21, L_22, L_23, L_28, L_29, if_pos, if_neg]
          refine step _ (by rw [un_nI (by omega)]; omega) fun i hi => ?_
          rw [bt_bd (by omega), cf_flip (by omega)]
          generalize pc (x &&& (cv k ^^^ -1)) = m at *
          simp [hi, g1]
        · by_cases g2 : pc (x &&& (cv k ^^^ -1)) = e
          · simp (disch := omega) only [Option.bind_some, Option.map_some, zlet_eq, ↓reduceIte, L_2, L_3, L_4, L_5, L_6, L_7, L_8, L_9, L_10, L_12, L_13, L_20, L_24, L_25, L_26, L_27, L_30, L_32, L_33, L_34, L_40, L_48, L_57, L_58, L_60, L_64, L_90, L_93, L_97, L_99, L_100, L_122, L_144, L_255, L_364, L_480, L_500, L_800, L_1000, L_100000, L_4096, L_1023, L_1024, nLe, nLt, nEq, nI_1, nI_add, pk_mul, nSn, nDn, nCl, zck_nI, zdv_nI, nNeg, nLe0, n0Lt, nEq0, nM1, m1N, m1Lt, nLm1, zcb_0, zcb_1, i10, i01, nEq1, n1Eq, nLt1, gI_eq, gI_nb, gI_na, x_badF, x_badT1, x_badT2, bt_0, bt_1, bit1_u, Bool.true_eq_false, Bool.false_eq_true, eq_self, Int32.or_zero, L_11, L_14, L_15, L_16, L_17, L_18, L_19, L_21, L_22, L_23, L_28, L_29, if_pos, if_neg, h3 k hk]
            refine step _ (un_or (by omega) hv (un_or (by omega) huc hx)) fun i hi => ?_
            rw [cf_flip (by omega), b_or, b_or]
            generalize pc (x &&& (cv k ^^^ -1)) = m at *
            simp [g2]
          · by_cases g3 : pc (x &&& (cv k ^^^ -1)) = e + 1
            · simp (disch := omega) only [Option.bind_some, Option.map_some, zlet_eq, ↓reduceIte, L_2, L_3, L_4, L_5, L_6, L_7, L_8, L_9, L_10, L_12, L_13, L_20, L_24, L_25, L_26, L_27, L_30, L_32, L_33, L_34, L_40, L_48, L_57, L_58, L_60, L_64, L_90, L_93, L_97, L_99, L_100, L_122, L_144, L_255, L_364, L_480, L_500, L_800, L_1000, L_100000, L_4096, L_1023, L_1024, nLe, nLt, nEq, nI_1, nI_add, pk_mul, nSn, nDn, nCl, zck_nI, zdv_nI, nNeg, nLe0, n0Lt, nEq0, nM1, m1N, m1Lt, nLm1, zcb_0, zcb_1, i10, i01, nEq1, n1Eq, nLt1, gI_eq, gI_nb, gI_na, x_badF, x_badT1, x_badT2, bt_0, bt_1, bit1_u, Bool.true_eq_false, Bool.false_eq_true, eq_self, Int32.or_zero, L_11, L_14, L_15, L_16, L_17, L_18, L_19, L_21, L_22, L_23, L_28, L_29, if_pos, if_neg, h3 k hk]
              refine step _ (un_or (by omega) hv (un_and (by omega) hx)) fun i hi => ?_
              rw [cf_flip (by omega), b_or, b_and, bt_not _ (by omega)]
              generalize pc (x &&& (cv k ^^^ -1)) = m at *
              simp [g3, show ¬ e + 1 < e by omega]
            · simp (disch := omega) only [Option.bind_some, Option.map_some, zlet_eq, ↓reduceIte, L_2, L_3, L_4, L_5, L_6, L_7, L_8, L_9, L_10, L_12, L_13, L_20, L_24, L_25, L_26, L_27, L_30, L_32, L_33, L_34, L_40, L_48, L_57, L_58, L_60, L_64, L_90, L_93, L_97, L_99, L_100, L_122, L_144, L_255, L_364, L_480, L_500, L_800, L_1000, L_100000, L_4096, L_1023, L_1024, nLe, nLt, nEq, nI_1, nI_add, pk_mul, nSn, nDn, nCl, zck_nI, zdv_nI, nNeg, nLe0, n0Lt, nEq0, nM1, m1N, m1Lt, nLm1, zcb_0, zcb_1, i10, i01, nEq1, n1Eq, nLt1, gI_eq, gI_nb, gI_na, x_badF, x_badT1, x_badT2, bt_0, bt_1, bit1_u, Bool.true_eq_false, Bool.false_eq_true, eq_self, Int32.or_zero, L_11, L_14, L_15, L_16, L_17, L_18, L_19, L_21, L_22, L_23, L_28, L_29, if_pos, if_neg]
              refine step _ hv fun i hi => ?_
              rw [cf_flip (by omega)]
              generalize pc (x &&& (cv k ^^^ -1)) = m at *
              simp [g1, g2, g3]
    · intro n v ⟨hv, hI⟩
      show zok (fn_X3_mixingCells_6 20 x (nI e) (nI (2 ^ c - 1)) D (n + 1) v (nI nc)) _
      rw [fn_X3_mixingCells_6, h2, if_pos (nI_le (Nat.le_refl _) (by omega)), zok_some]
      exact hI
  obtain ⟨z, e1, e2⟩ := main
  refine ⟨z, e1, fun i hi => ?_⟩
  have h5 := e2 i hi
  rw [← cfx_iff] at h5
  cases hz : bt z i
  · cases hq : cfx nc cv e (x ^^^ bit1 i)
    · rfl
    · rw [h5.mpr hq] at hz; cases hz
  · exact (h5.mp hz).symm
/-- pairs settled so far: f what is told of them, gd whose mixing cells stand -/
def tgs (a c ns nc : Nat) (cv : Nat → Int32) (e : Nat) (pt : Nat → Int32) (f : Nat → Nat → Bool) (gd : Nat → Nat → Prop) (D : zD) : Prop :=
  (gI D a 4 = nI ns ∧ gI D a 5 = nI c ∧ gI D a 6 = nI e ∧ gI D a 7 = nI (prs ns f)) ∧ (∀ s, s < ns → gI D (a + 1) s = pt s) ∧
  (∀ s, s < ns → ∀ o, o < 32 → bt (gI D (a + 2) s) o = (decide (o < ns) && f s o)) ∧
  (∀ s o, s < ns → o < ns → s ≠ o → gd s o → ∀ i, i < c → bt (gI D (a + 3) (s * 12 + o)) i = cfx nc cv e ((pt s ^^^ pt o) ^^^ bit1 i))
theorem tgs.cong {a : Nat} {pt : Nat → Int32} {f g : Nat → Nat → Bool} {gd hd : Nat → Nat → Prop} (hf : ∀ i j, i < ns → j < ns → f i j = g i j) (hg : ∀ i j, i < ns → j < ns → i ≠ j → hd i j → gd i j) (h : tgs a c ns nc cv e pt f gd D) : tgs a c ns nc cv e pt g hd D := by
  obtain ⟨⟨h1, h2, h3, h4⟩, h5, h6, h7⟩ := h
  refine ⟨⟨h1, h2, h3, by rw [h4, pst_ind fun i j hi hj => hf i j hi (by omega)]⟩, h5, fun s hs o ho => ?_, fun s o hs ho ne hh => h7 s o hs ho ne (hg s o hs ho ne hh)⟩
  rw [h6 s hs o ho]
  by_cases q : o < ns
  · rw [hf s o hs q]
  · rw [decide_eq_false q, Bool.false_and, Bool.false_and]
def pairUpd (f : Nat → Nat → Bool) (a b : Nat) (v : Bool) : Nat → Nat → Bool := fun i j => if (i = a ∧ j = b) ∨ (i = b ∧ j = a) then v else f i j
theorem prs_pair {f : Nat → Nat → Bool} {n a b : Nat} {v : Bool} (ha : a < n) (hb : b < n) (hab : a ≠ b) (hsym : ∀ i j, f i j = f j i) : prs n (pairUpd f a b v) + (if f a b then 1 else 0) = prs n f + (if v then 1 else 0) := by
  rcases Nat.lt_or_ge b a with g | g
  · have h := prs_upd (f := f) (g := pairUpd f a b v) ha g (fun i j hi hj hne => by unfold pairUpd; rw [if_neg (by omega)])
    have e1 : pairUpd f a b v a b = v := by unfold pairUpd; rw [if_pos (Or.inl ⟨rfl, rfl⟩)]
    rw [e1] at h
    exact h
  · have h := prs_upd (f := f) (g := pairUpd f a b v) hb (show a < b by omega) (fun i j hi hj hne => by unfold pairUpd; rw [if_neg (by omega)])
    have e1 : pairUpd f a b v b a = v := by unfold pairUpd; rw [if_pos (Or.inr ⟨rfl, rfl⟩)]
    rw [e1, hsym b a] at h
    exact h
def pOut (a : Nat) (k _j : Nat) : Prop := k < a ∨ a + 3 < k
theorem hcv.keep {a : Nat} {E : zD} (h : hcv nc c cv D) (g : ag (pOut a) D E) (ha : 22 ≤ a) : hcv nc c cv E := ⟨h.1, by rw [g _ _ (by unfold pOut; omega)]; exact h.2.1, fun k hk => by rw [g _ _ (by unfold pOut; omega)]; exact h.2.2.1 k hk, h.2.2.2⟩
theorem c_settle {a : Nat} {pt : Nat → Int32} {f : Nat → Nat → Bool} {gd : Nat → Nat → Prop} (ha : 22 ≤ a) (hc : hcv nc c cv D) (hc30 : c < 31) (he : e < 100) (hn : ns ≤ 12) (hpt : ∀ s, s < ns → un (pt s) < 2 ^ c) (hsym : ∀ i j, f i j = f j i) {s o : Nat} (hs : s < ns) (ho : o < ns) (hso : s ≠ o) (h : tgs a c ns nc cv e pt f gd D) : zok (fn_X10_settle a (nI s) (nI o) D) fun E => tgs a c ns nc cv e pt (pairUpd f s o (cfp nc cv e pt s o)) (fun i j => gd i j ∨ (i = s ∧ j = o) ∨ (i = o ∧ j = s)) E ∧ ag (pOut a) D E := by
  have h' := h
  obtain ⟨⟨h1, h2, h3, h4⟩, h5, h6, h7⟩ := h
  have hpr := prs_le (f := f) hn
  have hpp := prs_pair (v := cfp nc cv e pt s o) hs ho hso hsym
  have isS : ∀ k, k < ns → fn_X10_isSign a (nI k) D = some 1 := by
    intro k hk
    unfold fn_X10_isSign
    rw [h1]
    simp (disch := omega) only [Option.bind_some, Option.map_some, zlet_eq, ↓reduceIte, L_2, L_3, L_4, L_5, L_6, L_7, L_8, L_9, L_10, L_12, L_13, L_20, L_24, L_25, L_26, L_27, L_30, L_32, L_33, L_34, L_40, L_48, L_57, L_58, L_60, L_64, L_90, L_93, L_97, L_99, L_100, L_122, L_144, L_255, L_364, L_480, L_500, L_800, L_1000, L_100000, L_4096, L_1023, L_1024, nLe, nLt, nEq, nI_1, nI_add, pk_mul, nSn, nDn, nCl, zck_nI, zdv_nI, nNeg, nLe0, n0Lt, nEq0, nM1, m1N, m1Lt, nLm1, zcb_0, zcb_1, i10, i01, nEq1, n1Eq, nLt1, gI_eq, gI_nb, gI_na, x_badF, x_badT1, x_badT2, bt_0, bt_1, bit1_u, Bool.true_eq_false, Bool.false_eq_true, eq_self, Int32.or_zero, L_11, L_14, L_15, L_16, L_17, L_18, L_19, L_21, L_22, L_23, L_28, L_29, if_pos, if_neg]
  -- the mixing cells, behind the rest
  have fin : ∀ F, hcv nc c cv F → tgs a c ns nc cv e pt (pairUpd f s o (cfp nc cv e pt s o)) gd F → ag (pOut a) D F → zok (fn_X10_settle_131 a (nI s) (nI o) (pt s ^^^ pt o) F) fun E => tgs a c ns nc cv e pt (pairUpd f s o (cfp nc cv e pt s o)) (fun i j => gd i j ∨ (i = s ∧ j = o) ∨ (i = o ∧ j = s)) E ∧ ag (pOut a) D E := by
    intro F hcF ⟨⟨k1, k2, k3, k4⟩, k5, k6, k7⟩ hag
    obtain ⟨z, z1, z2⟩ := c_mixing hcF hc30 (un_xor (by omega) (hpt s hs) (hpt o ho)) he
    unfold fn_X10_settle_131 fn_X10_board
    rw [k2, k3, Option.bind_some]
    simp (disch := omega) only [Option.bind_some, Option.map_some, zlet_eq, ↓reduceIte, L_2, L_3, L_4, L_5, L_6, L_7, L_8, L_9, L_10, L_12, L_13, L_20, L_24, L_25, L_26, L_27, L_30, L_32, L_33, L_34, L_40, L_48, L_57, L_58, L_60, L_64, L_90, L_93, L_97, L_99, L_100, L_122, L_144, L_255, L_364, L_480, L_500, L_800, L_1000, L_100000, L_4096, L_1023, L_1024, nLe, nLt, nEq, nI_1, nI_add, pk_mul, nSn, nDn, nCl, zck_nI, zdv_nI, nNeg, nLe0, n0Lt, nEq0, nM1, m1N, m1Lt, nLm1, zcb_0, zcb_1, i10, i01, nEq1, n1Eq, nLt1, gI_eq, gI_nb, gI_na, x_badF, x_badT1, x_badT2, bt_0, bt_1, bit1_u, Bool.true_eq_false, Bool.false_eq_true, eq_self, Int32.or_zero, L_11, L_14, L_15, L_16, L_17, L_18, L_19, L_21, L_22, L_23, L_28, L_29, if_pos, if_neg, bd_eq2 c hc30, z1, zok_some]
    refine ⟨⟨⟨?_, ?_, ?_, ?_⟩, fun t ht => ?_, fun t ht q hq => ?_, fun t q ht hq hne hgd i hi => ?_⟩, (hag.sI (by unfold pOut; omega)).sI (by unfold pOut; omega)⟩
    · rw [gI_na (by omega), gI_na (by omega), k1]
    · rw [gI_na (by omega), gI_na (by omega), k2]
    · rw [gI_na (by omega), gI_na (by omega), k3]
    · rw [gI_na (by omega), gI_na (by omega), k4]
    · rw [gI_na (by omega), gI_na (by omega), k5 t ht]
    · rw [gI_na (by omega), gI_na (by omega), k6 t ht q hq]
    · rw [gI_if]
      by_cases g1 : t * 12 + q = o * 12 + s
      · rw [if_pos g1]
        obtain ⟨rfl, rfl⟩ : t = o ∧ q = s := by omega
        rw [z2 i hi, Int32.xor_comm (pt q) (pt t)]
      · rw [if_neg g1, gI_if]
        by_cases g2 : t * 12 + q = s * 12 + o
        · rw [if_pos g2]
          obtain ⟨rfl, rfl⟩ : t = s ∧ q = o := by omega
          rw [z2 i hi]
        · rw [if_neg g2]
          refine k7 t q ht hq hne ?_ i hi
          rcases hgd with g | ⟨rfl, rfl⟩ | ⟨rfl, rfl⟩
          · exact g
          · exact absurd rfl g2
          · exact absurd rfl g1
  unfold fn_X10_settle
  rw [isS s hs, Option.bind_some, if_neg (by decide), isS o ho, Option.bind_some, if_neg (by decide), zck_nI (by omega) (by omega), zck_nI (by omega) (by omega), nI_clamp (by omega), nI_clamp (by omega), h5 s hs, h5 o ho, zlet_eq, zck_nI (by omega) (by omega)]
  have hfs : bt (gI D (a + 2) s) o = f s o := by rw [h6 s hs o (by omega), decide_eq_true ho, Bool.true_and]
  have hmix := c_first (D := D) (a := 20) hc.2.1 hc.1 (pt s ^^^ pt o) he
  rw [show sFi nc (gI D 21) e (pt s ^^^ pt o) = sFi nc cv e (pt s ^^^ pt o) from sFi_cong hc.2.2.1] at hmix
  have hcf := sFi_cfx (nc := nc) (cv := cv) (e := e) (x := pt s ^^^ pt o) hc.1
  -- the two answers, before and now
  have key : ∀ (b n : Bool), f s o = b → cfp nc cv e pt s o = n → zok (fn_X10_settle_79 a (nI s) (nI o) (pt s ^^^ pt o) (if b = true then 1 else 0) (if n = true then 1 else 0) D) fun E => tgs a c ns nc cv e pt (pairUpd f s o (cfp nc cv e pt s o)) (fun i j => gd i j ∨ (i = s ∧ j = o) ∨ (i = o ∧ j = s)) E ∧ ag (pOut a) D E := by
    intro b n hb hn'
    unfold fn_X10_settle_79
    by_cases hbn : b = n
    · subst hbn
      rw [if_pos rfl]
      refine fin D hc (h'.cong (fun i j _ _ => ?_) (fun _ _ _ _ _ q => q)) ag.refl
      unfold pairUpd
      rw [hn']
      split
      · rename_i q
        rcases q with ⟨rfl, rfl⟩ | ⟨rfl, rfl⟩
        · exact hb
        · rw [hsym]; exact hb
      · rfl
    · rw [hn', hb] at hpp
      have tog : ∀ w, w = nI (prs ns (pairUpd f s o n)) → tgs a c ns nc cv e pt (pairUpd f s o n) gd (sI (sI (sI D (a + 2) s (gI D (a + 2) s ^^^ bit1 o)) (a + 2) o (gI D (a + 2) o ^^^ bit1 s)) a 7 w) := by
        intro w hw
        refine ⟨⟨?_, ?_, ?_, ?_⟩, fun t ht => ?_, fun t ht q hq => ?_, fun t q ht hq hne hgd i hi => ?_⟩
        · rw [gI_nb (by omega), gI_na (by omega), gI_na (by omega), h1]
        · rw [gI_nb (by omega), gI_na (by omega), gI_na (by omega), h2]
        · rw [gI_nb (by omega), gI_na (by omega), gI_na (by omega), h3]
        · rw [gI_eq, hw]
        · rw [gI_na (by omega), gI_na (by omega), gI_na (by omega), h5 t ht]
        · rw [gI_na (by omega), gI_if]
          have hnb : n = !b := by cases n <;> cases b <;> first | rfl | exact absurd rfl hbn
          unfold pairUpd
          by_cases g1 : t = o
          · rw [if_pos g1, b_xor, bt_bit1 s (by omega) q hq, h6 o ho q hq]
            subst g1
            by_cases g2 : q = s
            · subst g2
              rw [if_pos (Or.inr ⟨rfl, rfl⟩), decide_eq_true hs, hsym, hb, hnb]
              simp
            · rw [if_neg (by omega), decide_eq_false g2, Bool.xor_false]
          · rw [if_neg g1, gI_if]
            by_cases g3 : t = s
            · rw [if_pos g3, b_xor, bt_bit1 o (by omega) q hq, h6 s hs q hq]
              subst g3
              by_cases g2 : q = o
              · subst g2
                rw [if_pos (Or.inl ⟨rfl, rfl⟩), decide_eq_true ho, hb, hnb]
                simp
              · rw [if_neg (by omega), decide_eq_false g2, Bool.xor_false]
            · rw [if_neg g3, if_neg (by omega), h6 t ht q hq]
        · rw [gI_na (by omega), gI_na (by omega), gI_na (by omega)]
          exact h7 t q ht hq hne hgd i hi
      have tag : ∀ w, ag (pOut a) D (sI (sI (sI D (a + 2) s (gI D (a + 2) s ^^^ bit1 o)) (a + 2) o (gI D (a + 2) o ^^^ bit1 s)) a 7 w) := fun w => ((ag.refl.sI (by unfold pOut; omega)).sI (by unfold pOut; omega)).sI (by unfold pOut; omega)
      rw [hn'] at fin
      cases n
      · obtain rfl : b = true := by cases b; exact absurd rfl hbn; rfl
        rw [if_pos rfl, if_neg (show ¬ (false = true) by decide), if_neg (by decide)]
        unfold fn_X10_settle_127
        simp only [if_true, if_false, Bool.false_eq_true] at hpp
        have ew : nI (prs ns f) + (-1 : Int32) = nI (prs ns (pairUpd f s o false)) := by rw [show prs ns f = prs ns (pairUpd f s o false) + 1 by omega, pk_m1]
        have eo : ∀ (F : zD) x, gI (sI D (a + 2) s x) (a + 2) o = gI D (a + 2) o := fun F x => gI_nb (by omega)
        have e7 : ∀ x y, gI (sI (sI D (a + 2) s x) (a + 2) o y) a 7 = nI (prs ns f) := fun x y => by rw [gI_na (by omega), gI_na (by omega), h4]
        simp (disch := omega) only [Option.bind_some, Option.map_some, zlet_eq, ↓reduceIte, L_2, L_3, L_4, L_5, L_6, L_7, L_8, L_9, L_10, L_12, L_13, L_20, L_24, L_25, L_26, L_27, L_30, L_32, L_33, L_34, L_40, L_48, L_57, L_58, L_60, L_64, L_90, L_93, L_97, L_99, L_100, L_122, L_144, L_255, L_364, L_480, L_500, L_800, L_1000, L_100000, L_4096, L_1023, L_1024, nLe, nLt, nEq, nI_1, nI_add, pk_mul, nSn, nDn, nCl, zck_nI, zdv_nI, nNeg, nLe0, n0Lt, nEq0, nM1, m1N, m1Lt, nLm1, zcb_0, zcb_1, i10, i01, nEq1, n1Eq, nLt1, gI_eq, gI_nb, gI_na, x_badF, x_badT1, x_badT2, bt_0, bt_1, bit1_u, Bool.true_eq_false, Bool.false_eq_true, eq_self, Int32.or_zero, L_11, L_14, L_15, L_16, L_17, L_18, L_19, L_21, L_22, L_23, L_28, L_29, if_pos, if_neg, eo D, e7]
        rw [h4, ew, hn']
        exact fin _ (hc.keep (tag _) ha) (tog _ rfl) (tag _)
      · obtain rfl : b = false := by cases b; rfl; exact absurd rfl hbn
        rw [if_pos rfl, if_neg (show ¬ (false = true) by decide), if_neg (by decide)]
        unfold fn_X10_settle_127
        simp only [if_true, if_false, Bool.false_eq_true] at hpp
        have ew : nI (prs ns f) + (1 : Int32) = nI (prs ns (pairUpd f s o true)) := by rw [nI_1, show prs ns f + 1 = prs ns (pairUpd f s o true) by omega]
        have eo : ∀ (F : zD) x, gI (sI D (a + 2) s x) (a + 2) o = gI D (a + 2) o := fun F x => gI_nb (by omega)
        have e7 : ∀ x y, gI (sI (sI D (a + 2) s x) (a + 2) o y) a 7 = nI (prs ns f) := fun x y => by rw [gI_na (by omega), gI_na (by omega), h4]
        simp (disch := omega) only [Option.bind_some, Option.map_some, zlet_eq, ↓reduceIte, L_2, L_3, L_4, L_5, L_6, L_7, L_8, L_9, L_10, L_12, L_13, L_20, L_24, L_25, L_26, L_27, L_30, L_32, L_33, L_34, L_40, L_48, L_57, L_58, L_60, L_64, L_90, L_93, L_97, L_99, L_100, L_122, L_144, L_255, L_364, L_480, L_500, L_800, L_1000, L_100000, L_4096, L_1023, L_1024, nLe, nLt, nEq, nI_1, nI_add, pk_mul, nSn, nDn, nCl, zck_nI, zdv_nI, nNeg, nLe0, n0Lt, nEq0, nM1, m1N, m1Lt, nLm1, zcb_0, zcb_1, i10, i01, nEq1, n1Eq, nLt1, gI_eq, gI_nb, gI_na, x_badF, x_badT1, x_badT2, bt_0, bt_1, bit1_u, Bool.true_eq_false, Bool.false_eq_true, eq_self, Int32.or_zero, L_11, L_14, L_15, L_16, L_17, L_18, L_19, L_21, L_22, L_23, L_28, L_29, if_pos, if_neg, eo D, e7]
        rw [h4, ew, hn']
        exact fin _ (hc.keep (tag _) ha) (tog _ rfl) (tag _)
  have k56 : ∀ (b : Bool), f s o = b → zok (fn_X10_settle_56 a (nI s) (nI o) (pt s ^^^ pt o) (if b = true then 1 else 0) D) fun E => tgs a c ns nc cv e pt (pairUpd f s o (cfp nc cv e pt s o)) (fun i j => gd i j ∨ (i = s ∧ j = o) ∨ (i = o ∧ j = s)) E ∧ ag (pOut a) D E := by
    intro b hb
    unfold fn_X10_settle_56
    rw [h3, hmix, Option.bind_some]
    by_cases g : sFi nc cv e (pt s ^^^ pt o) = -1
    · rw [if_pos g]
      exact key b false hb (hcf.1.mp g)
    · rw [if_neg g]
      exact key b true hb (hcf.2.mp g)
  by_cases g : f s o = true
  · rw [if_neg (fun q => by have := (bt_0 _ _ (by omega)).mp q; rw [hfs, g] at this; cases this)]
    exact k56 true g
  · rw [if_pos ((bt_0 _ _ (by omega)).mpr (by rw [hfs]; simpa using g))]
    exact k56 false (by simpa using g)
end M68
