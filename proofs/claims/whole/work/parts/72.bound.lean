/-! THE MATHEMATICS: the most pairs that have no sign in common -/
theorem sMM_cong {f g : Nat → Nat → Bool} {ns : Nat} : ∀ {n s : Nat} {F G : Nat → Bool}, (∀ k, s ≤ k → k < s + n → F k = G k) → (∀ i j, s ≤ i → i < j → j < s + n → f i j = g i j) → sMM f ns n s F = sMM g ns n s G
  | 0, _, _, _, _, _ => rfl
  | n + 1, s, F, G, h, hf => by
    rw [sMM, sMM, h s (by omega) (by omega), sMM_cong (n := n) (s := s + 1) (F := F) (G := G) (fun k h1 h2 => h k (by omega) (by omega)) (fun i j h1 h2 h3 => hf i j (by omega) h2 (by omega))]
    split
    · refine zfo_cong fun o b h1 h2 => ?_
      rw [h o (by omega) (by omega), hf s o (by omega) (by omega) (by omega), sMM_cong (n := n) (s := s + 1) (fun k h3 h4 => by rw [h k (by omega) (by omega)]) (fun i j h1 h2 h3 => hf i j (by omega) h2 (by omega))]
    · rfl
theorem zfo_max (c : Nat → Bool) (g : Nat → Nat) : ∀ (m i x v : Nat), zfo (fun o b => if c o = true then max b (g o) else b) m i (max x v) = max v (zfo (fun o b => if c o = true then max b (g o) else b) m i x)
  | 0, i, x, v => Nat.max_comm x v
  | m + 1, i, x, v => by
    rw [zfo, zfo]
    by_cases h : c i = true
    · rw [if_pos h, if_pos h, show max (max x v) (g i) = max (max x (g i)) v by omega, zfo_max c g m (i + 1) _ v]
    · rw [if_neg h, if_neg h, zfo_max c g m (i + 1) x v]
theorem zfo_maxK (c : Nat → Bool) (g : Nat → Nat) (K : Nat) : ∀ (m i x y : Nat), max (zfo (fun o b => if c o = true then max b (K + 1 + g o) else b) m i x) (K + y) = max x (K + zfo (fun o b => if c o = true then max b (1 + g o) else b) m i y)
  | 0, i, x, y => rfl
  | m + 1, i, x, y => by
    rw [zfo, zfo]
    by_cases h : c i = true
    · rw [if_pos h, if_pos h, zfo_maxK c g K m (i + 1) _ y, zfo_max c (fun o => 1 + g o) m (i + 1) y (1 + g i)]
      omega
    · rw [if_neg h, if_neg h, zfo_maxK c g K m (i + 1) x y]
theorem fb_ct_first (p : Nat → Bool) (n : Nat) : fb_ct p (n + 1) = (if p 0 then 1 else 0) + fb_ct (fun k => p (k + 1)) n := by
  have := fb_ct_split p 1 n
  rw [Nat.add_comm n 1, this]
  congr 1
  · show 0 + (if p 0 then 1 else 0) = _
    omega
  · exact fb_ct_cong fun k _ => by rw [Nat.add_comm]
theorem sMM_le {f : Nat → Nat → Bool} {ns : Nat} : ∀ {n s : Nat} {F : Nat → Bool}, 2 * sMM f ns n s F ≤ fb_ct (fun k => F (s + k)) n
  | 0, _, _ => Nat.le_refl 0
  | n + 1, s, F => by
    have e : fb_ct (fun k => F (s + k)) (n + 1) = (if F s then 1 else 0) + fb_ct (fun k => F (s + 1 + k)) n := by
      rw [fb_ct_first]
      congr 1
      exact fb_ct_cong fun k _ => by rw [show s + (k + 1) = s + 1 + k by omega]
    have h1 := sMM_le (f := f) (ns := ns) (n := n) (s := s + 1) (F := F)
    rw [sMM, e]
    by_cases hs : F s = true
    · rw [if_pos hs, if_pos hs]
      refine zfo_inv (N := s + 1 + n) (fun o b => s + 1 ≤ o ∧ 2 * b ≤ 1 + fb_ct (fun k => F (s + 1 + k)) n) (fun o b ho hb => ⟨by omega, ?_⟩) (m := n) (i := s + 1) (by omega) ⟨by omega, by omega⟩ |>.2
      by_cases hc : (F o && f s o) = true
      · rw [if_pos hc]
        have hFo : F o = true := by rw [Bool.and_eq_true] at hc; exact hc.1
        have h2 := sMM_le (f := f) (ns := ns) (n := n) (s := s + 1) (F := fun k => F k && !decide (k = o))
        have h3 := fb_ct_upd (fun k => F (s + 1 + k)) false (i := o - (s + 1)) (n := n) (by omega)
        rw [show s + 1 + (o - (s + 1)) = o by omega, hFo] at h3
        have h4 : fb_ct (fun k => (fun k => F k && !decide (k = o)) (s + 1 + k)) n = fb_ct (fun k => if k = o - (s + 1) then false else F (s + 1 + k)) n := fb_ct_cong fun k hk => by
          by_cases q : k = o - (s + 1)
          · subst q
            rw [if_pos rfl, show s + 1 + (o - (s + 1)) = o by omega]
            simp
          · rw [if_neg q]
            simp [show ¬ s + 1 + k = o by omega]
        rw [if_pos rfl, if_neg (by decide)] at h3
        rw [h4] at h2
        have := hb.2
        omega
      · rw [if_neg hc]
        exact hb.2
    · rw [if_neg hs, if_neg hs]
      omega
theorem sMM_n {f : Nat → Nat → Bool} {ns n s : Nat} {F : Nat → Bool} : 2 * sMM f ns n s F ≤ n := Nat.le_trans sMM_le (fb_ct_le _ _)
theorem sMM_iso {f : Nat → Nat → Bool} {ns : Nat} {iso : Nat → Bool} (hi : ∀ k o, iso k = true → f k o = false) (hsym : ∀ i j, f i j = f j i) : ∀ {n s : Nat} {F : Nat → Bool}, sMM f ns n s (fun k => F k && !iso k) = sMM f ns n s F
  | 0, _, _ => rfl
  | n + 1, s, F => by
    rw [sMM, sMM, sMM_iso hi hsym (n := n) (s := s + 1) (F := F)]
    by_cases hs : F s = true
    · rw [if_pos hs]
      cases his : iso s
      · rw [hs]
        rw [if_pos (show (true && !false) = true from rfl)]
        refine zfo_cong fun o b _ _ => ?_
        cases ho : iso o
        · rw [Bool.not_false, Bool.and_true]
          have e : (fun k => (F k && !iso k) && !decide (k = o)) = (fun k => (fun k => F k && !decide (k = o)) k && !iso k) := funext fun k => by
            show (F k && !iso k && !decide (k = o)) = (F k && !decide (k = o) && !iso k)
            rw [Bool.and_assoc, Bool.and_comm (!iso k), ← Bool.and_assoc]
          rw [e, sMM_iso hi hsym (n := n) (s := s + 1) (F := fun k => F k && !decide (k = o))]
        · rw [hsym s o, hi o s ho, Bool.and_false, Bool.and_false, if_neg (by decide), if_neg (by decide)]
      · rw [if_neg (by simp)]
        refine (zfo_inv (N := s + 1 + n) (fun _ b => b = sMM f ns n (s + 1) F) (fun o b _ hb => ?_) (m := n) (i := s + 1) (by omega) rfl).symm
        rw [hi s o his, Bool.and_false, if_neg (by decide)]
        exact hb
    · rw [if_neg hs, if_neg (by simp [hs])]
theorem sMM_skip {f : Nat → Nat → Bool} {ns : Nat} {F : Nat → Bool} : ∀ {s b n : Nat}, (∀ k, b ≤ k → k < b + s → F k = false) → sMM f ns (s + n) b F = sMM f ns n (b + s) F
  | 0, b, n, _ => by rw [Nat.zero_add]; rfl
  | s + 1, b, n, h => by
    rw [show s + 1 + n = (s + n) + 1 by omega, sMM, if_neg (by rw [h b (by omega) (by omega)]; decide), sMM_skip (s := s) (b := b + 1) fun k h1 h2 => h k (by omega) (by omega), show b + 1 + s = b + (s + 1) by omega]
theorem bt_neg1 : ∀ s, s < 32 → ∀ k, k < 32 → bt (-(bit1 s)) k = decide (s ≤ k) := by decide +kernel
section M72
variable {D : zD} {P : Nat → Nat} {nc e c ns : Nat} {cv : Nat → Int32}
theorem c_pairUp {a : Nat} {pt : Nat → Int32} (hn : ns ≤ 12) (h : tg a c ns nc cv e pt D) : ∀ (n s fuel : Nat) (used : Int32) (found best : Nat), s + n = ns → n < fuel → found + n ≤ 100 → best ≤ 100 → fn_X10_pairUpR fuel a (nI s) used (nI found) (nI best) D = some (nI (max best (found + sMM (offd nc cv e pt) ns n s (fun k => !bt used k)))) := by
  obtain ⟨⟨h1, h2, h3, h4⟩, h5, h6, h7⟩ := tg_to h
  intro n
  induction n with
  | zero =>
    intro s fuel used found best hs hf hfo hb
    obtain ⟨fuel, rfl⟩ : ∃ k, fuel = k + 1 := ⟨fuel - 1, by omega⟩
    rw [fn_X10_pairUpR]
    unfold fn_X10_pairUp fn_X10_isSign
    rw [h1]
    simp (disch := omega) only [Option.bind_some, Option.map_some, zlet_eq, ↓reduceIte, L_2, L_3, L_4, L_5, L_6, L_7, L_8, L_9, L_10, L_12, L_13, L_20, L_24, L_25, L_26, L_27, L_30, L_32, L_33, L_34, L_40, L_48, L_57, L_58, L_60, L_64, L_90, L_93, L_97, L_99, L_100, L_122, L_144, L_255, L_364, L_480, L_500, L_800, L_1000, L_100000, L_4096, L_1023, L_1024, nLe, nLt, nEq, nI_1, nI_add, pk_mul, nSn, nDn, nCl, zck_nI, zdv_nI, nNeg, nLe0, n0Lt, nEq0, nM1, m1N, m1Lt, nLm1, zcb_0, zcb_1, i10, i01, nEq1, n1Eq, nLt1, gI_eq, gI_nb, gI_na, x_badF, x_badT1, x_badT2, bt_0, bt_1, bit1_u, Bool.true_eq_false, Bool.false_eq_true, eq_self, Int32.or_zero, L_11, L_14, L_15, L_16, L_17, L_18, L_19, L_21, L_22, L_23, L_28, L_29, if_pos, if_neg, zmx_n, sMM]
    congr 2
    omega
  | succ n ih =>
    intro s fuel used found best hs hf hfo hb
    obtain ⟨fuel, rfl⟩ : ∃ k, fuel = k + 1 := ⟨fuel - 1, by omega⟩
    have isS : fn_X10_isSign a (nI s) D = some 1 := by
      unfold fn_X10_isSign
      rw [h1]
      simp (disch := omega) only [Option.bind_some, Option.map_some, zlet_eq, ↓reduceIte, L_2, L_3, L_4, L_5, L_6, L_7, L_8, L_9, L_10, L_12, L_13, L_20, L_24, L_25, L_26, L_27, L_30, L_32, L_33, L_34, L_40, L_48, L_57, L_58, L_60, L_64, L_90, L_93, L_97, L_99, L_100, L_122, L_144, L_255, L_364, L_480, L_500, L_800, L_1000, L_100000, L_4096, L_1023, L_1024, nLe, nLt, nEq, nI_1, nI_add, pk_mul, nSn, nDn, nCl, zck_nI, zdv_nI, nNeg, nLe0, n0Lt, nEq0, nM1, m1N, m1Lt, nLm1, zcb_0, zcb_1, i10, i01, nEq1, n1Eq, nLt1, gI_eq, gI_nb, gI_na, x_badF, x_badT1, x_badT2, bt_0, bt_1, bit1_u, Bool.true_eq_false, Bool.false_eq_true, eq_self, Int32.or_zero, L_11, L_14, L_15, L_16, L_17, L_18, L_19, L_21, L_22, L_23, L_28, L_29, if_pos, if_neg]
    rw [fn_X10_pairUpR]
    unfold fn_X10_pairUp
    rw [isS, Option.bind_some, if_neg (by decide), h1, zlet_eq, bit1_u, bit1_u, bd_eq2 ns (by omega), pc_bit, Option.bind_some, show (2 : Int32) = nI 2 from rfl, zdv_nI (by omega) (by omega)]
    generalize hX : (nI (2 ^ ns - 1) &&& (used ^^^ -1)) &&& -(bit1 s) = X
    have hXb : ∀ k, k < 32 → bt X k = (decide (s ≤ k ∧ k < ns) && !bt used k) := by
      intro k hk
      rw [← hX, b_and, b_and, bt_bd (by omega), bt_not _ hk, bt_neg1 s (by omega) k hk]
      by_cases q1 : k < ns
      · by_cases q2 : s ≤ k
        · simp [q1, q2]
        · simp [q1, q2]
      · simp [q1]
    have hXc : pc X = fb_ct (fun k => !bt used (s + k)) (n + 1) := by
      unfold pc
      rw [show 32 = s + ((n + 1) + (32 - ns)) by omega, fb_ct_split, fb_ct_split, fb_ct_zero.mpr fun k hk => by rw [hXb k (by omega), decide_eq_false (by omega)]; rfl]
      rw [fb_ct_zero (p := fun k => bt X (s + (n + 1 + k))) |>.mpr fun k hk => by rw [hXb _ (by omega), decide_eq_false (by omega)]; rfl]
      rw [Nat.zero_add, Nat.add_zero]
      exact fb_ct_cong fun k hk => by rw [hXb _ (by omega), decide_eq_true (by omega), Bool.true_and]
    have hle := sMM_le (f := offd nc cv e pt) (ns := ns) (n := n + 1) (s := s) (F := fun k => !bt used k)
    have hcl := fb_ct_le (fun k => !bt used (s + k)) (n + 1)
    rw [hXc, nDn _ _ (by omega) (by omega) (by omega), nI_add]
    by_cases hp : best < found + fb_ct (fun k => !bt used (s + k)) (n + 1) / 2
    · rw [if_pos (nI_lt hp (by omega))]
      -- what is behind s, with s used
      have tail : ∀ (m : Nat), m ≤ 100 → fn_X10_pairUpR fuel a (nI s + 1) (used ||| bit1 s) (nI found) (nI m) D = some (nI (max m (found + sMM (offd nc cv e pt) ns n (s + 1) (fun k => !bt used k)))) := by
        intro m hm
        rw [nI_1, ih (s + 1) fuel (used ||| bit1 s) found m (by omega) (by omega) (by omega) hm]
        congr 4
        refine sMM_cong (fun k q1 q2 => ?_) (fun _ _ _ _ _ => rfl)
        rw [b_or, bt_bit1 s (by omega) k (by omega), decide_eq_false (by omega), Bool.or_false]
      cases hB : bt used s
      · rw [if_pos ((bt_0 _ _ (by omega)).mpr hB), zck_nI (by omega) (by omega), zlet_eq, zlet_eq, nI_clamp (by omega), nI_1]
        have hop : ∀ o, s + 1 ≤ o → o < ns → bt (gI D (a + 2) s &&& X) o = ((!bt used o) && offd nc cv e pt s o) := by
          intro o q1 q2
          rw [b_and, h6 s (by omega) o (by omega), decide_eq_true q2, hXb o (by omega), decide_eq_true (by omega), Bool.true_and, Bool.true_and, Bool.and_comm]
        generalize gI D (a + 2) s &&& X = Y at *
        have e1 := z_fori ns (fun q o (m : Nat) => fn_X10_pairUp_83 (fn_X10_pairUpR fuel) a (nI s) used (nI found) (nI best) D q (nI m) Y (nI o)) (fun o m => if ((!bt used o) && offd nc cv e pt s o) = true then max m (found + 1 + sMM (offd nc cv e pt) ns n (s + 1) (fun k => !bt used k && !decide (k = o))) else m) (fun m => some (nI (max m (found + sMM (offd nc cv e pt) ns n (s + 1) (fun k => !bt used k))))) (fun o m => s + 1 ≤ o ∧ m ≤ 100) ?_ ?_ (s + 1) zFU best (by omega) (zfu_gt (by omega)) ⟨by omega, hb⟩
        · refine Eq.trans e1 ?_
          congr 2
          rw [zfo_maxK (fun o => (!bt used o) && offd nc cv e pt s o) (fun o => sMM (offd nc cv e pt) ns n (s + 1) (fun k => !bt used k && !decide (k = o))) found, show ns - (s + 1) = n by omega, sMM, hB, if_pos (show (!false) = true from rfl)]
        · intro q o m ho ⟨ho1, hm⟩
          have hsl : ∀ F, found + 1 + sMM (offd nc cv e pt) ns n (s + 1) F ≤ 100 := fun F => by
            have := sMM_le (f := offd nc cv e pt) (ns := ns) (n := n) (s := s + 1) (F := F)
            have := fb_ct_le (fun k => F (s + 1 + k)) n
            omega
          refine ⟨?_, by omega, ?_⟩
          · show fn_X10_pairUp_83 (fn_X10_pairUpR fuel) a (nI s) used (nI found) (nI best) D (q + 1) (nI m) Y (nI o) = fn_X10_pairUp_83 (fn_X10_pairUpR fuel) a (nI s) used (nI found) (nI best) D q (nI (if ((!bt used o) && offd nc cv e pt s o) = true then max m (found + 1 + sMM (offd nc cv e pt) ns n (s + 1) (fun k => !bt used k && !decide (k = o))) else m)) Y (nI (o + 1))
            have hY := hop o ho1 ho
            rw [fn_X10_pairUp_83, h1, if_neg (nI_ge ho (by omega)), nI_1, nI_1, nI_1]
            cases hc : ((!bt used o) && offd nc cv e pt s o)
            · rw [hc] at hY
              rw [if_pos ((bt_0 _ _ (by omega)).mpr hY), if_neg (by decide)]
            · rw [hc] at hY
              rw [if_neg (fun r => by have := (bt_0 _ _ (by omega)).mp r; rw [hY] at this; cases this), if_pos rfl, bit1_u, bit1_u, ih (s + 1) fuel _ (found + 1) m (by omega) (by omega) (by omega) hm, Option.bind_some]
              congr 4
              refine sMM_cong (fun k q1 q2 => ?_) (fun _ _ _ _ _ => rfl)
              rw [b_or, b_or, bt_bit1 s (by omega) k (by omega), bt_bit1 o (by omega) k (by omega), decide_eq_false (show ¬ k = s by omega), Bool.or_false]
              cases bt used k <;> simp
          · split
            · have := hsl (fun k => !bt used k && !decide (k = o))
              omega
            · exact hm
        · intro q m ⟨_, hm⟩
          show fn_X10_pairUp_83 (fn_X10_pairUpR fuel) a (nI s) used (nI found) (nI best) D (q + 1) (nI m) Y (nI ns) = _
          rw [fn_X10_pairUp_83, h1, if_pos (nI_le (Nat.le_refl _) (by omega))]
          unfold fn_X10_pairUp_132
          rw [bit1_u, tail m hm]
          rfl
      · rw [if_neg (fun q => by have := (bt_0 _ _ (by omega)).mp q; rw [hB] at this; cases this), zlet_eq, nI_1]
        have e1 := z_for ns (fun q o (_ : Unit) => fn_X10_pairUp_83 (fn_X10_pairUpR fuel) a (nI s) used (nI found) (nI best) D q (nI best) 0 (nI o)) (fun _ u => u) (fun _ => some (nI (max best (found + sMM (offd nc cv e pt) ns n (s + 1) (fun k => !bt used k))))) ?_ ?_ (s + 1) zFU () (by omega) (zfu_gt (by omega))
        · refine Eq.trans e1 ?_
          rw [sMM, hB, if_neg (by decide)]
        · intro q o _ ho
          show fn_X10_pairUp_83 (fn_X10_pairUpR fuel) a (nI s) used (nI found) (nI best) D (q + 1) (nI best) 0 (nI o) = fn_X10_pairUp_83 (fn_X10_pairUpR fuel) a (nI s) used (nI found) (nI best) D q (nI best) 0 (nI (o + 1))
          rw [fn_X10_pairUp_83, h1, if_neg (nI_ge ho (by omega)), if_pos ((bt_0 _ _ (by omega)).mpr (b_0 o)), nI_1]
        · intro q _
          show fn_X10_pairUp_83 (fn_X10_pairUpR fuel) a (nI s) used (nI found) (nI best) D (q + 1) (nI best) 0 (nI ns) = _
          rw [fn_X10_pairUp_83, h1, if_pos (nI_le (Nat.le_refl _) (by omega))]
          unfold fn_X10_pairUp_132
          rw [bit1_u, tail best hb]
          rfl
    · rw [if_neg (fun q => hp ((nI_ltI (by omega) (by omega)).mp q))]
      congr 2
      have e2 : fb_ct (fun k => (fun k => !bt used k) (s + k)) (n + 1) = fb_ct (fun k => !bt used (s + k)) (n + 1) := rfl
      omega
theorem c_mostApart {a : Nat} {pt : Nat → Int32} (hn : ns ≤ 12) (h : tg a c ns nc cv e pt D) : fn_X10_mostApartPairs a D = some (nI (sMM (cfp nc cv e pt) ns ns 0 (fun _ => true))) := by
  have h1 := h.1
  have e1 := z_for ns (fun q s (b : Int32) => fn_X10_mostApartPairs_4 a D q b (nI s)) (fun s b => if (fun s => decide (fb_ct (offd nc cv e pt s) ns = 0)) s then b ||| bit1 s else b) (fun b => (fn_X10_pairUpT a 0 b 0 0 D).bind fun x2 => some x2) ?_ ?_ 0 zFU 0 (Nat.zero_le _) (zfu_gt (by omega))
  · unfold fn_X10_mostApartPairs
    refine Eq.trans e1 ?_
    show (fn_X10_pairUpR 100 a (nI 0) (zset (fun s => decide (fb_ct (offd nc cv e pt s) ns = 0)) ns) (nI 0) (nI 0) D).bind _ = _
    rw [c_pairUp hn h ns 0 100 _ 0 0 (by omega) (by omega) (by omega) (by omega), Option.bind_some, Nat.zero_add, Nat.zero_max]
    congr 2
    have e2 : sMM (offd nc cv e pt) ns ns 0 (fun k => !bt (zset (fun s => decide (fb_ct (offd nc cv e pt s) ns = 0)) ns) k) = sMM (offd nc cv e pt) ns ns 0 (fun k => (fun _ => true) k && !(decide (k < ns) && decide (fb_ct (offd nc cv e pt k) ns = 0))) := sMM_cong (fun k _ q2 => by rw [bt_zset (by omega) (by omega), Bool.true_and]) (fun _ _ _ _ _ => rfl)
    rw [e2]
    generalize hg : (fun i j => offd nc cv e pt i j && decide (i < ns) && decide (j < ns)) = g
    have hgv : ∀ i j, g i j = (offd nc cv e pt i j && decide (i < ns) && decide (j < ns)) := fun i j => by rw [← hg]
    rw [sMM_cong (f := offd nc cv e pt) (g := g) (fun _ _ _ => rfl) (fun i j q1 q2 q3 => by rw [hgv, decide_eq_true (by omega), decide_eq_true (by omega)]; simp)]
    rw [sMM_iso (f := g) (iso := fun k => decide (k < ns) && decide (fb_ct (offd nc cv e pt k) ns = 0)) (F := fun _ => true) (fun k o q => by
      simp only [Bool.and_eq_true, decide_eq_true_eq] at q
      rw [hgv]
      by_cases q2 : o < ns
      · rw [fb_ct_zero.mp q.2 o q2]; rfl
      · rw [decide_eq_false q2, Bool.and_false]) (fun i j => by
      rw [hgv, hgv, offd_sym pt i j]
      cases offd nc cv e pt j i <;> cases decide (i < ns) <;> cases decide (j < ns) <;> rfl)]
    exact sMM_cong (fun _ _ _ => rfl) (fun i j q1 q2 q3 => by rw [hgv, decide_eq_true (by omega), decide_eq_true (by omega)]; unfold offd; rw [decide_eq_false (by omega)]; simp)
  · intro q s b hs
    show fn_X10_mostApartPairs_4 a D (q + 1) b (nI s) = fn_X10_mostApartPairs_4 a D q _ (nI (s + 1))
    have hl := fb_ct_le (offd nc cv e pt s) ns
    rw [fn_X10_mostApartPairs_4, h1, if_neg (nI_ge hs (by omega)), c_degree hn h hs, Option.bind_some, nI_1]
    by_cases g : fb_ct (offd nc cv e pt s) ns = 0
    · rw [if_pos (by rw [g]; rfl), if_pos (decide_eq_true g)]
      rfl
    · rw [if_neg (fun r => g ((nEq0 _ (by omega)).mp r)), if_neg (by simpa using g)]
  · intro q b
    show fn_X10_mostApartPairs_4 a D (q + 1) b (nI ns) = _
    rw [fn_X10_mostApartPairs_4, h1, if_pos (nI_le (Nat.le_refl _) (by omega))]
/-! the reference: all sets of signs in turn -/
theorem un_andle (x y : Int32) : un (x &&& y) ≤ un x := by
  unfold un
  rw [Int32.toBitVec_and, BitVec.toNat_and]
  exact Nat.and_le_left
def pQ (a _b : Nat) : Prop := a ≠ 200
theorem r_bound {pt : Nat → Int32} (hn : ns ≤ 12) (h16 : gI D 102 16 = nI ns) (hcf : ∀ i j, i < ns → j < ns → gI D (183 + i) j = bI (offd nc cv e pt i j)) : zok (fn_X12_bound_16 zFU 0 D) fun q => q.1 = nI (sMM (cfp nc cv e pt) ns ns 0 (fun _ => true)) ∧ agL pQ D q.2 := by
  have hpn : 2 ^ ns ≤ 2 ^ 12 := Nat.pow_le_pow_right (by decide) hn
  have hpp := Nat.two_pow_pos ns
  have hsm : ∀ F, sMM (offd nc cv e pt) ns ns 0 F ≤ 12 := fun F => by
    have := sMM_le (f := offd nc cv e pt) (ns := ns) (n := ns) (s := 0) (F := F)
    have := fb_ct_le (fun k => F (0 + k)) ns
    omega
  refine z_inv (2 ^ ns) (fun n t (E : zD) => fn_X12_bound_16 n (nI t) E) (fun t E => (∀ q, q < t → gI E 200 q = nI (sMM (offd nc cv e pt) ns ns 0 (fun k => q.testBit k))) ∧ agL pQ D E) _ ?_ ?_ 0 zFU D (by omega) (zfu_gt (by omega)) ⟨fun q hq => by omega, agL.refl⟩
  · intro n t E ht ⟨g1, g2⟩ ih
    show zok (fn_X12_bound_16 (n + 1) (nI t) E) _
    have e16 : gI E 102 16 = nI ns := by rw [g2.1 _ _ (by unfold pQ; omega), h16]
    rw [fn_X12_bound_16, e16, bit1_u, bit1_eq ns (by omega), if_neg (nI_ge ht (by omega)), zck_nI (by omega) (by omega), nI_clamp (by omega), zlet_eq]
    have stepper : ∀ F v, v = sMM (offd nc cv e pt) ns ns 0 (fun k => t.testBit k) → (∀ q, q < t → gI F 200 q = gI E 200 q) → agL pQ E F → ∀ G, G = sI F 200 t (nI v) → (∀ q, q < t + 1 → gI G 200 q = nI (sMM (offd nc cv e pt) ns ns 0 (fun k => q.testBit k))) ∧ agL pQ D G := by
      intro F v hv hF1 hF2 G hG
      subst hG
      refine ⟨fun q hq => ?_, agL_sI (g2.trans hF2) (by unfold pQ; omega)⟩
      by_cases r : q = t
      · subst r; rw [gI_eq, hv]
      · rw [gI_nb r, hF1 q (by omega)]
        exact g1 q (by omega)
    by_cases ht0 : t = 0
    · subst ht0
      rw [if_pos (show nI 0 = 0 from rfl), nI_1]
      refine ih _ (stepper E 0 ?_ (fun _ _ => rfl) agL.refl _ rfl)
      have := sMM_skip (f := offd nc cv e pt) (ns := ns) (F := fun k => Nat.testBit 0 k) (s := ns) (b := 0) (n := 0) (fun k _ _ => Nat.zero_testBit k)
      rw [Nat.add_zero] at this
      rw [this]
      rfl
    · rw [if_neg (nI_ne0 (by omega) (by omega))]
      obtain ⟨k, q, hk⟩ := p_low t (by omega)
      have hkb : t.testBit k = true := by rw [hk, p_lowb]; simp
      have hkl : ∀ i, i < k → t.testBit i = false := fun i hi => by rw [hk, p_lowb, if_pos hi]
      have hkn : k < ns := by
        rcases Nat.lt_or_ge k ns with g | g
        · exact g
        · rw [Nat.testBit_lt_two_pow (Nat.lt_of_lt_of_le ht (Nat.pow_le_pow_right (by decide) g))] at hkb
          cases hkb
      have hbt : ∀ i, bt (nI t) i = t.testBit i := fun i => bt_nI (by omega) i
      generalize hE1 : sI E 200 t 0 = E1
      have f1 : ∀ q, q < t → gI E1 200 q = gI E 200 q := fun q hq => by rw [← hE1, gI_nb (by omega)]
      have f2 : agL pQ E E1 := by rw [← hE1]; exact agL_sI agL.refl (by unfold pQ; omega)
      have e1 := z_for k (fun m i (_ : Unit) => fn_X12_bound_42 (fn_X12_bound_16 n) m (nI t) (nI i) E1) (fun _ u => u) (fun _ => fn_X12_bound_56 (fn_X12_bound_16 n) (nI t) (nI k) E1) ?_ ?_ 0 zFU () (by omega) (zfu_gt (by omega))
      · rw [show fn_X12_bound_42 (fn_X12_bound_16 n) zFU (nI t) 0 E1 = _ from e1]
        unfold fn_X12_bound_56
        rw [bit1_u]
        generalize hR : nI t &&& (bit1 k ^^^ -1) = R
        have hRb : ∀ i, i < 32 → bt R i = (t.testBit i && !decide (i = k)) := fun i hi => by rw [← hR, b_and, hbt, bt_not _ hi, bt_bit1 k (by omega) i hi]
        have hRt : un R < t := by
          have h1 : un R ≤ t := by rw [← hR]; exact Nat.le_trans (un_andle _ _) (by rw [un_nI (by omega)]; exact Nat.le_refl _)
          rcases Nat.lt_or_eq_of_le h1 with g | g
          · exact g
          · have h2 := hRb k (by omega)
            rw [bt_un, g, hkb] at h2
            simp at h2
        have hRl : ∀ i, i < 32 → (un R).testBit i = (t.testBit i && !decide (i = k)) := hRb
        -- the value of a set without its lowest
        have hval : ∀ (X : Int32), un X < t → ∀ G : Nat → Bool, (∀ i, k + 1 ≤ i → i < ns → bt X i = G i) → (∀ i, i < k + 1 → bt X i = false) → gI E1 200 (un X) = nI (sMM (offd nc cv e pt) ns (ns - (k + 1)) (k + 1) G) := by
          intro X hX G hG hG0
          rw [f1 _ hX, g1 _ hX]
          congr 1
          have := sMM_skip (f := offd nc cv e pt) (ns := ns) (F := fun i => (un X).testBit i) (s := k + 1) (b := 0) (n := ns - (k + 1)) (fun i _ h2 => hG0 i (by omega))
          rw [show k + 1 + (ns - (k + 1)) = ns by omega, Nat.zero_add] at this
          rw [this]
          exact sMM_cong (fun i h1 h2 => hG i h1 (by omega)) (fun _ _ _ _ _ => rfl)
        have hbase := hval R hRt (fun i => t.testBit i) (fun i h1 h2 => by rw [hRb i (by omega), decide_eq_false (by omega)]; simp) (fun i hi => by
          rw [hRb i (by omega)]
          by_cases q : i = k
          · simp [q]
          · rw [hkl i (by omega)]; rfl)
        have hRn : R = nI (un R) := (nI_un R).symm
        rw [zlet_eq, hRn, zck_nI (by omega) (by omega), zlet_eq, zlet_eq, nI_clamp (by omega), hbase, nI_1]
        rw [← hRn]
        have hsk : sMM (offd nc cv e pt) ns ns 0 (fun i => t.testBit i) = zfo (fun o b => if (t.testBit o && offd nc cv e pt k o) = true then max b (1 + sMM (offd nc cv e pt) ns (ns - (k + 1)) (k + 1) (fun i => t.testBit i && !decide (i = o))) else b) (ns - (k + 1)) (k + 1) (sMM (offd nc cv e pt) ns (ns - (k + 1)) (k + 1) (fun i => t.testBit i)) := by
          have := sMM_skip (f := offd nc cv e pt) (ns := ns) (F := fun i => t.testBit i) (s := k) (b := 0) (n := ns - k) (fun i _ h2 => hkl i (by omega))
          rw [show k + (ns - k) = ns by omega, Nat.zero_add] at this
          rw [this, show ns - k = (ns - (k + 1)) + 1 by omega, sMM, if_pos hkb]
        have e2 := z_fori ns (fun m o (b : Nat) => fn_X12_bound_77 (fn_X12_bound_16 n) m (nI t) (nI k) R (nI b) (nI o) E1) (fun o b => if (t.testBit o && offd nc cv e pt k o) = true then max b (1 + sMM (offd nc cv e pt) ns (ns - (k + 1)) (k + 1) (fun i => t.testBit i && !decide (i = o))) else b) (fun b => fn_X12_bound_16 n (nI (t + 1)) (sI E1 200 t (nI b))) (fun o b => k + 1 ≤ o ∧ b ≤ 100) ?_ ?_ (k + 1) zFU (sMM (offd nc cv e pt) ns (ns - (k + 1)) (k + 1) (fun i => t.testBit i)) (by omega) (zfu_gt (by omega)) ⟨by omega, ?_⟩
        · refine (congrArg (fun z => zok z _) e2).mpr ?_
          rw [← hsk]
          exact ih _ (stepper E1 _ rfl f1 f2 _ rfl)
        · intro m o b ho ⟨ho1, hb⟩
          have hle : sMM (offd nc cv e pt) ns (ns - (k + 1)) (k + 1) (fun i => t.testBit i && !decide (i = o)) ≤ 12 := by
            have := sMM_n (f := offd nc cv e pt) (ns := ns) (n := ns - (k + 1)) (s := k + 1) (F := fun i => t.testBit i && !decide (i = o))
            omega
          refine ⟨?_, by omega, by split <;> omega⟩
          show fn_X12_bound_77 (fn_X12_bound_16 n) (m + 1) (nI t) (nI k) R (nI b) (nI o) E1 = fn_X12_bound_77 (fn_X12_bound_16 n) m (nI t) (nI k) R (nI (if (t.testBit o && offd nc cv e pt k o) = true then max b (1 + sMM (offd nc cv e pt) ns (ns - (k + 1)) (k + 1) (fun i => t.testBit i && !decide (i = o))) else b)) (nI (o + 1)) E1
          have e16' : gI E1 102 16 = nI ns := by rw [f2.1 _ _ (by unfold pQ; omega), e16]
          have hco : gI E1 (183 + k) o = bI (offd nc cv e pt k o) := by rw [f2.1 _ _ (by unfold pQ; omega), g2.1 _ _ (by unfold pQ; omega)]; exact hcf k o hkn ho
          rw [fn_X12_bound_77, e16', if_neg (nI_ge ho (by omega)), nI_1, nI_clamp (by omega), nI_clamp (by omega), bit1_u, hco]
          cases hB : t.testBit o
          · rw [if_neg (fun r => by have := (bt_1 _ _ (by omega)).mp r; rw [hbt, hB] at this; cases this)]
            rfl
          · rw [if_pos ((bt_1 _ _ (by omega)).mpr (by rw [hbt, hB])), zck_nI (by omega) (by omega), zck_nI (by omega) (by omega)]
            cases hO : offd nc cv e pt k o
            · rw [if_pos (show bI false = 0 from rfl)]
              rfl
            · rw [if_neg (show ¬ bI true = 0 by decide), if_pos (show (true && true) = true from rfl)]
              generalize hR2 : R &&& (bit1 o ^^^ -1) = R2
              have hR2b : ∀ i, i < 32 → bt R2 i = ((t.testBit i && !decide (i = k)) && !decide (i = o)) := fun i hi => by rw [← hR2, b_and, hRb i hi, bt_not _ hi, bt_bit1 o (by omega) i hi]
              have hR2t : un R2 < t := Nat.lt_of_le_of_lt (by rw [← hR2]; exact un_andle _ _) hRt
              have hv2 := hval R2 hR2t (fun i => t.testBit i && !decide (i = o)) (fun i h1 h2 => by rw [hR2b i (by omega), decide_eq_false (show ¬ i = k by omega)]; simp) (fun i hi => by
                rw [hR2b i (by omega)]
                by_cases q : i = k
                · simp [q]
                · rw [hkl i (by omega)]; rfl)
              have hR2n : R2 = nI (un R2) := (nI_un R2).symm
              have hcl : R2.toNatClampNeg = un R2 := by rw [hR2n, nI_clamp (by omega), ← hR2n]
              have hzk : ∀ {α : Type} (x : Option α), zck R2 4096 x = x := fun x => by rw [hR2n]; exact zck_nI (by omega) (by omega)
              rw [hzk, hzk, hcl, hv2, nI_1, zlet_eq]
              generalize sMM (offd nc cv e pt) ns (ns - (k + 1)) (k + 1) (fun i => t.testBit i && !decide (i = o)) = w at *
              by_cases hw : w + 1 ≤ b
              · rw [if_pos (nI_le hw (by omega)), show max b (1 + w) = b by omega]
              · rw [if_neg (nI_ge (by omega) (by omega)), show max b (1 + w) = w + 1 by omega]
        · intro m b _
          show fn_X12_bound_77 (fn_X12_bound_16 n) (m + 1) (nI t) (nI k) R (nI b) (nI ns) E1 = _
          have e16' : gI E1 102 16 = nI ns := by rw [f2.1 _ _ (by unfold pQ; omega), e16]
          rw [fn_X12_bound_77, e16', if_pos (nI_le (Nat.le_refl _) (by omega)), zck_nI (by omega) (by omega), nI_clamp (by omega), zlet_eq, nI_1]
        · have := sMM_n (f := offd nc cv e pt) (ns := ns) (n := ns - (k + 1)) (s := k + 1) (F := fun i => t.testBit i)
          omega
      · intro m i _ hi
        show fn_X12_bound_42 (fn_X12_bound_16 n) (m + 1) (nI t) (nI i) E1 = fn_X12_bound_42 (fn_X12_bound_16 n) m (nI t) (nI (i + 1)) E1
        rw [fn_X12_bound_42, if_pos ((bt_0 _ _ (by omega)).mpr (by rw [hbt, hkl i hi])), nI_1]
      · intro m _
        show fn_X12_bound_42 (fn_X12_bound_16 n) (m + 1) (nI t) (nI k) E1 = _
        rw [fn_X12_bound_42, if_neg (fun r => by have := (bt_0 _ _ (by omega)).mp r; rw [hbt, hkb] at this; cases this)]
  · intro n E ⟨g1, g2⟩
    show zok (fn_X12_bound_16 (n + 1) (nI (2 ^ ns)) E) _
    have e16 : gI E 102 16 = nI ns := by rw [g2.1 _ _ (by unfold pQ; omega), h16]
    rw [fn_X12_bound_16, e16, bit1_u, bit1_eq ns (by omega), if_pos (nI_le (Nat.le_refl _) (by omega)), nS1 _ hpp, zck_nI (by omega) (by omega), nI_clamp (by omega), g1 _ (by omega), zok_some]
    refine ⟨?_, g2⟩
    show nI (sMM _ ns ns 0 _) = nI (sMM _ ns ns 0 _)
    congr 1
    exact sMM_cong (ns := ns) (n := ns) (s := 0) (f := offd nc cv e pt) (g := cfp nc cv e pt) (F := fun k => (2 ^ ns - 1).testBit k) (G := fun _ => true) (fun k _ h2 => by rw [Nat.testBit_two_pow_sub_one]; exact decide_eq_true (by omega)) (fun i j h1 h2 h3 => by unfold offd; rw [decide_eq_false (by omega)]; rfl)
theorem tk_bound (h : iv P D) : duo fn_X11_bound fn_X12_bound D := by
  have hP2 : P 2 ≤ 12 := h.1.1.1.2.2.2.2.1
  have hc : zok (fn_X11_bound D) fun q => q.1 = nI (sMM (cfp (P 4) (gI D 128) (2 * P 5) (gI D 105)) (P 2) (P 2) 0 (fun _ => true)) ∧ iv P q.2 ∧ gI q.2 105 = gI D 105 ∧ gI q.2 128 = gI D 128 := by
    unfold fn_X11_bound
    rw [show fn_X11_keptAt 7 D = some (gI D 101 7) from c_keptAt (k := 7) (by omega), Option.bind_some]
    by_cases q : gI D 101 7 = -1000000
    · rw [if_pos q]
      refine (c_wv h).bind fun E ⟨e1, e2, e3⟩ => ?_
      rw [c_mostApart hP2 e2, Option.bind_some]
      have f105 : gI E 105 = gI D 105 := funext fun b => e3 _ _ (by unfold pW; omega)
      have f128 : gI E 128 = gI D 128 := funext fun b => e3 _ _ (by unfold pW; omega)
      have hg : ag pM E (sI E 101 7 (nI (sMM (cfp (P 4) (gI D 128) (2 * P 5) (gI D 105)) (P 2) (P 2) 0 (fun _ => true)))) := ag.refl.sI (by unfold pM; omega)
      rw [show ∀ v, fn_X11_keep 7 v E = some (sI E 101 7 v) from fun v => c_keep (k := 7) (by omega) v, Option.bind_some, show fn_X11_keptAt 7 (sI E 101 7 (nI (sMM (cfp (P 4) (gI D 128) (2 * P 5) (gI D 105)) (P 2) (P 2) 0 (fun _ => true)))) = some _ from c_keptAt (k := 7) (by omega), Option.bind_some, zok_some]
      refine ⟨(by show gI (sI E 101 7 _) 101 7 = _; exact gI_eq), pM_iv e1 hg (e1.2.1.mk hg (Or.inl ⟨by simp (disch := omega) only [Option.bind_some, Option.map_some, zlet_eq, ↓reduceIte, L_2, L_3, L_4, L_5, L_6, L_7, L_8, L_9, L_10, L_12, L_13, L_20, L_24, L_25, L_26, L_27, L_30, L_32, L_33, L_34, L_40, L_48, L_57, L_58, L_60, L_64, L_90, L_93, L_97, L_99, L_100, L_122, L_144, L_255, L_364, L_480, L_500, L_800, L_1000, L_100000, L_4096, L_1023, L_1024, nLe, nLt, nEq, nI_1, nI_add, pk_mul, nSn, nDn, nCl, zck_nI, zdv_nI, nNeg, nLe0, n0Lt, nEq0, nM1, m1N, m1Lt, nLm1, zcb_0, zcb_1, i10, i01, nEq1, n1Eq, nLt1, gI_eq, gI_nb, gI_na, x_badF, x_badT1, x_badT2, bt_0, bt_1, bit1_u, Bool.true_eq_false, Bool.false_eq_true, eq_self, Int32.or_zero, L_11, L_14, L_15, L_16, L_17, L_18, L_19, L_21, L_22, L_23, L_28, L_29, if_pos, if_neg], by simp (disch := omega) only [Option.bind_some, Option.map_some, zlet_eq, ↓reduceIte, L_2, L_3, L_4, L_5, L_6, L_7, L_8, L_9, L_10, L_12, L_13, L_20, L_24, L_25, L_26, L_27, L_30, L_32, L_33, L_34, L_40, L_48, L_57, L_58, L_60, L_64, L_90, L_93, L_97, L_99, L_100, L_122, L_144, L_255, L_364, L_480, L_500, L_800, L_1000, L_100000, L_4096, L_1023, L_1024, nLe, nLt, nEq, nI_1, nI_add, pk_mul, nSn, nDn, nCl, zck_nI, zdv_nI, nNeg, nLe0, n0Lt, nEq0, nM1, m1N, m1Lt, nLm1, zcb_0, zcb_1, i10, i01, nEq1, n1Eq, nLt1, gI_eq, gI_nb, gI_na, x_badF, x_badT1, x_badT2, bt_0, bt_1, bit1_u, Bool.true_eq_false, Bool.false_eq_true, eq_self, Int32.or_zero, L_11, L_14, L_15, L_16, L_17, L_18, L_19, L_21, L_22, L_23, L_28, L_29, if_pos, if_neg]⟩) (Or.inl ⟨by simp (disch := omega) only [Option.bind_some, Option.map_some, zlet_eq, ↓reduceIte, L_2, L_3, L_4, L_5, L_6, L_7, L_8, L_9, L_10, L_12, L_13, L_20, L_24, L_25, L_26, L_27, L_30, L_32, L_33, L_34, L_40, L_48, L_57, L_58, L_60, L_64, L_90, L_93, L_97, L_99, L_100, L_122, L_144, L_255, L_364, L_480, L_500, L_800, L_1000, L_100000, L_4096, L_1023, L_1024, nLe, nLt, nEq, nI_1, nI_add, pk_mul, nSn, nDn, nCl, zck_nI, zdv_nI, nNeg, nLe0, n0Lt, nEq0, nM1, m1N, m1Lt, nLm1, zcb_0, zcb_1, i10, i01, nEq1, n1Eq, nLt1, gI_eq, gI_nb, gI_na, x_badF, x_badT1, x_badT2, bt_0, bt_1, bit1_u, Bool.true_eq_false, Bool.false_eq_true, eq_self, Int32.or_zero, L_11, L_14, L_15, L_16, L_17, L_18, L_19, L_21, L_22, L_23, L_28, L_29, if_pos, if_neg], by simp (disch := omega) only [Option.bind_some, Option.map_some, zlet_eq, ↓reduceIte, L_2, L_3, L_4, L_5, L_6, L_7, L_8, L_9, L_10, L_12, L_13, L_20, L_24, L_25, L_26, L_27, L_30, L_32, L_33, L_34, L_40, L_48, L_57, L_58, L_60, L_64, L_90, L_93, L_97, L_99, L_100, L_122, L_144, L_255, L_364, L_480, L_500, L_800, L_1000, L_100000, L_4096, L_1023, L_1024, nLe, nLt, nEq, nI_1, nI_add, pk_mul, nSn, nDn, nCl, zck_nI, zdv_nI, nNeg, nLe0, n0Lt, nEq0, nM1, m1N, m1Lt, nLm1, zcb_0, zcb_1, i10, i01, nEq1, n1Eq, nLt1, gI_eq, gI_nb, gI_na, x_badF, x_badT1, x_badT2, bt_0, bt_1, bit1_u, Bool.true_eq_false, Bool.false_eq_true, eq_self, Int32.or_zero, L_11, L_14, L_15, L_16, L_17, L_18, L_19, L_21, L_22, L_23, L_28, L_29, if_pos, if_neg], by simp (disch := omega) only [Option.bind_some, Option.map_some, zlet_eq, ↓reduceIte, L_2, L_3, L_4, L_5, L_6, L_7, L_8, L_9, L_10, L_12, L_13, L_20, L_24, L_25, L_26, L_27, L_30, L_32, L_33, L_34, L_40, L_48, L_57, L_58, L_60, L_64, L_90, L_93, L_97, L_99, L_100, L_122, L_144, L_255, L_364, L_480, L_500, L_800, L_1000, L_100000, L_4096, L_1023, L_1024, nLe, nLt, nEq, nI_1, nI_add, pk_mul, nSn, nDn, nCl, zck_nI, zdv_nI, nNeg, nLe0, n0Lt, nEq0, nM1, m1N, m1Lt, nLm1, zcb_0, zcb_1, i10, i01, nEq1, n1Eq, nLt1, gI_eq, gI_nb, gI_na, x_badF, x_badT1, x_badT2, bt_0, bt_1, bit1_u, Bool.true_eq_false, Bool.false_eq_true, eq_self, Int32.or_zero, L_11, L_14, L_15, L_16, L_17, L_18, L_19, L_21, L_22, L_23, L_28, L_29, if_pos, if_neg]⟩) (Or.inl ⟨by simp (disch := omega) only [Option.bind_some, Option.map_some, zlet_eq, ↓reduceIte, L_2, L_3, L_4, L_5, L_6, L_7, L_8, L_9, L_10, L_12, L_13, L_20, L_24, L_25, L_26, L_27, L_30, L_32, L_33, L_34, L_40, L_48, L_57, L_58, L_60, L_64, L_90, L_93, L_97, L_99, L_100, L_122, L_144, L_255, L_364, L_480, L_500, L_800, L_1000, L_100000, L_4096, L_1023, L_1024, nLe, nLt, nEq, nI_1, nI_add, pk_mul, nSn, nDn, nCl, zck_nI, zdv_nI, nNeg, nLe0, n0Lt, nEq0, nM1, m1N, m1Lt, nLm1, zcb_0, zcb_1, i10, i01, nEq1, n1Eq, nLt1, gI_eq, gI_nb, gI_na, x_badF, x_badT1, x_badT2, bt_0, bt_1, bit1_u, Bool.true_eq_false, Bool.false_eq_true, eq_self, Int32.or_zero, L_11, L_14, L_15, L_16, L_17, L_18, L_19, L_21, L_22, L_23, L_28, L_29, if_pos, if_neg], by simp (disch := omega) only [Option.bind_some, Option.map_some, zlet_eq, ↓reduceIte, L_2, L_3, L_4, L_5, L_6, L_7, L_8, L_9, L_10, L_12, L_13, L_20, L_24, L_25, L_26, L_27, L_30, L_32, L_33, L_34, L_40, L_48, L_57, L_58, L_60, L_64, L_90, L_93, L_97, L_99, L_100, L_122, L_144, L_255, L_364, L_480, L_500, L_800, L_1000, L_100000, L_4096, L_1023, L_1024, nLe, nLt, nEq, nI_1, nI_add, pk_mul, nSn, nDn, nCl, zck_nI, zdv_nI, nNeg, nLe0, n0Lt, nEq0, nM1, m1N, m1Lt, nLm1, zcb_0, zcb_1, i10, i01, nEq1, n1Eq, nLt1, gI_eq, gI_nb, gI_na, x_badF, x_badT1, x_badT2, bt_0, bt_1, bit1_u, Bool.true_eq_false, Bool.false_eq_true, eq_self, Int32.or_zero, L_11, L_14, L_15, L_16, L_17, L_18, L_19, L_21, L_22, L_23, L_28, L_29, if_pos, if_neg]⟩) (Or.inr (by rw [gI_eq, f105, f128])) (Or.inl (by simp (disch := omega) only [Option.bind_some, Option.map_some, zlet_eq, ↓reduceIte, L_2, L_3, L_4, L_5, L_6, L_7, L_8, L_9, L_10, L_12, L_13, L_20, L_24, L_25, L_26, L_27, L_30, L_32, L_33, L_34, L_40, L_48, L_57, L_58, L_60, L_64, L_90, L_93, L_97, L_99, L_100, L_122, L_144, L_255, L_364, L_480, L_500, L_800, L_1000, L_100000, L_4096, L_1023, L_1024, nLe, nLt, nEq, nI_1, nI_add, pk_mul, nSn, nDn, nCl, zck_nI, zdv_nI, nNeg, nLe0, n0Lt, nEq0, nM1, m1N, m1Lt, nLm1, zcb_0, zcb_1, i10, i01, nEq1, n1Eq, nLt1, gI_eq, gI_nb, gI_na, x_badF, x_badT1, x_badT2, bt_0, bt_1, bit1_u, Bool.true_eq_false, Bool.false_eq_true, eq_self, Int32.or_zero, L_11, L_14, L_15, L_16, L_17, L_18, L_19, L_21, L_22, L_23, L_28, L_29, if_pos, if_neg])) (Or.inl (by simp (disch := omega) only [Option.bind_some, Option.map_some, zlet_eq, ↓reduceIte, L_2, L_3, L_4, L_5, L_6, L_7, L_8, L_9, L_10, L_12, L_13, L_20, L_24, L_25, L_26, L_27, L_30, L_32, L_33, L_34, L_40, L_48, L_57, L_58, L_60, L_64, L_90, L_93, L_97, L_99, L_100, L_122, L_144, L_255, L_364, L_480, L_500, L_800, L_1000, L_100000, L_4096, L_1023, L_1024, nLe, nLt, nEq, nI_1, nI_add, pk_mul, nSn, nDn, nCl, zck_nI, zdv_nI, nNeg, nLe0, n0Lt, nEq0, nM1, m1N, m1Lt, nLm1, zcb_0, zcb_1, i10, i01, nEq1, n1Eq, nLt1, gI_eq, gI_nb, gI_na, x_badF, x_badT1, x_badT2, bt_0, bt_1, bit1_u, Bool.true_eq_false, Bool.false_eq_true, eq_self, Int32.or_zero, L_11, L_14, L_15, L_16, L_17, L_18, L_19, L_21, L_22, L_23, L_28, L_29, if_pos, if_neg])) (fun s hs' => Or.inl ⟨by simp (disch := omega) only [Option.bind_some, Option.map_some, zlet_eq, ↓reduceIte, L_2, L_3, L_4, L_5, L_6, L_7, L_8, L_9, L_10, L_12, L_13, L_20, L_24, L_25, L_26, L_27, L_30, L_32, L_33, L_34, L_40, L_48, L_57, L_58, L_60, L_64, L_90, L_93, L_97, L_99, L_100, L_122, L_144, L_255, L_364, L_480, L_500, L_800, L_1000, L_100000, L_4096, L_1023, L_1024, nLe, nLt, nEq, nI_1, nI_add, pk_mul, nSn, nDn, nCl, zck_nI, zdv_nI, nNeg, nLe0, n0Lt, nEq0, nM1, m1N, m1Lt, nLm1, zcb_0, zcb_1, i10, i01, nEq1, n1Eq, nLt1, gI_eq, gI_nb, gI_na, x_badF, x_badT1, x_badT2, bt_0, bt_1, bit1_u, Bool.true_eq_false, Bool.false_eq_true, eq_self, Int32.or_zero, L_11, L_14, L_15, L_16, L_17, L_18, L_19, L_21, L_22, L_23, L_28, L_29, if_pos, if_neg], by simp (disch := omega) only [Option.bind_some, Option.map_some, zlet_eq, ↓reduceIte, L_2, L_3, L_4, L_5, L_6, L_7, L_8, L_9, L_10, L_12, L_13, L_20, L_24, L_25, L_26, L_27, L_30, L_32, L_33, L_34, L_40, L_48, L_57, L_58, L_60, L_64, L_90, L_93, L_97, L_99, L_100, L_122, L_144, L_255, L_364, L_480, L_500, L_800, L_1000, L_100000, L_4096, L_1023, L_1024, nLe, nLt, nEq, nI_1, nI_add, pk_mul, nSn, nDn, nCl, zck_nI, zdv_nI, nNeg, nLe0, n0Lt, nEq0, nM1, m1N, m1Lt, nLm1, zcb_0, zcb_1, i10, i01, nEq1, n1Eq, nLt1, gI_eq, gI_nb, gI_na, x_badF, x_badT1, x_badT2, bt_0, bt_1, bit1_u, Bool.true_eq_false, Bool.false_eq_true, eq_self, Int32.or_zero, L_11, L_14, L_15, L_16, L_17, L_18, L_19, L_21, L_22, L_23, L_28, L_29, if_pos, if_neg]⟩)), ?_, ?_⟩
      · show gI (sI E 101 7 _) 105 = _
        rw [gIf (by omega), f105]
      · show gI (sI E 101 7 _) 128 = _
        rw [gIf (by omega), f128]
    · rw [if_neg q, Option.bind_some, zok_some]
      rcases h.2.1.2.2.2.2.1 with k | k
      · exact absurd k q
      · exact ⟨k, h, rfl, rfl⟩
  refine hc.mono fun q ⟨e1, e2, e3, e4⟩ => ?_
  have hi := e2.thr 0
  unfold fn_X12_bound
  rw [zlet_eq]
  have m := r_lay hi
  rw [zok_bind] at m
  refine zok_bind.mpr (m.mono fun E hE => ?_)
  refine zok_bind.mpr (hE.mono fun r ⟨f1, f2, f3, f4⟩ => ?_)
  refine (r_bound (nc := P 4) (cv := gI (sI q.2 102 0 0) 128) (e := 2 * P 5) (pt := gI (sI q.2 102 0 0) 105) (ns := P 2) hP2 (by rw [f4.1 _ _ (by unfold pRN; omega)]; exact hi.1.1.2.2.1.2.2.1) f3).mono fun s ⟨k1, k2⟩ => ⟨⟨P, ?_⟩, ?_⟩
  · have hr := pRN_iv hi f4
    exact hr.keep (k2.1.mono (by unfold pQ pcr pA pB pS pI pT; intros; omega)) (k2.1.mono (by unfold pQ pK; intros; omega)) (k2.1.mono (by unfold pQ pO; intros; omega))
  · rw [k1, e1, gIf (by omega), gIf (by omega), e3, e4]
end M72
