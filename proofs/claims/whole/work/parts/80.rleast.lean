/-! THE MATHEMATICS: the least part, the reference -/
theorem n_shr {u s : Nat} (hs : s < 31) (hu : u < 2147483648) : nI u >>> (nI s &&& 31) = nI (u / 2 ^ s) := by
  have hle : u / 2 ^ s ≤ u := Nat.div_le_self _ _
  apply b_ext
  intro i hi
  rw [b_sshr s (by omega) _ hi, bt_nI (by omega), bt_nI (by omega), bt_nI (by omega), Nat.testBit_div_two_pow, Nat.add_comm i s]
  split
  · rfl
  · rw [Nat.testBit_lt_two_pow (Nat.lt_of_lt_of_le (show u < 2 ^ 31 by omega) (Nat.pow_le_pow_right (by decide) (show 31 ≤ 31 by omega))), Nat.testBit_lt_two_pow (Nat.lt_of_lt_of_le (show u < 2 ^ 31 by omega) (Nat.pow_le_pow_right (by decide) (show 31 ≤ s + i by omega)))]
theorem pc_zero {u : Nat} (hu : u < 4294967296) (h : pc (nI u) = 0) : u = 0 := by
  have h2 : nI u = 0 := b_ext fun i hi => by rw [b_0]; exact fb_ct_zero.mp h i hi
  have := congrArg un h2
  rw [un_nI hu] at this
  exact this
theorem pc_full {u t : Nat} (ht : t < 31) (hu : u < 2 ^ t) (h : pc (nI u) = t) : u = 2 ^ t - 1 := by
  have hp : 2 ^ t ≤ 2 ^ 30 := Nat.pow_le_pow_right (by decide) (by omega)
  rw [pc_ct (c := t) (by omega) (by rw [un_nI (by omega)]; exact hu)] at h
  have h2 : nI u = nI (2 ^ t - 1) := b_ext fun i hi => by
    rw [bt_bd (c := t) (by omega)]
    rcases Nat.lt_or_ge i t with g | g
    · rw [decide_eq_true g]; exact fb_ct_all.mp h i g
    · rw [decide_eq_false (by omega)]; exact bt_hi (by omega) hu g
  have := congrArg un h2
  rw [un_nI (by omega), un_nI (by omega)] at this
  exact this
theorem pc_cat {t a l : Nat} (ht : t < 32) (hl : l < 2 ^ t) : pc (nI (2 ^ t * a + l)) = pc (nI (2 ^ t * a)) + pc (nI l) := by
  rw [← fa_or_sum a hl, pc_dis]
  intro i hi ⟨h1, h2⟩
  rcases Nat.lt_or_ge i t with g | g
  · have : bt (nI (2 ^ t * a)) i = false := by
      have e : nI (2 ^ t * a) = nI ((2 ^ t * a) % 4294967296) := by
        apply Int32.toBitVec_inj.mp
        apply BitVec.eq_of_toNat_eq
        show (2 ^ t * a) % 2 ^ 32 = ((2 ^ t * a) % 4294967296) % 2 ^ 32
        rw [Nat.mod_mod]
      rw [e, bt_nI (Nat.mod_lt _ (by decide)), show (4294967296 : Nat) = 2 ^ 32 from rfl, Nat.testBit_mod_two_pow, Nat.testBit_two_pow_mul]
      rw [decide_eq_false (show ¬ i ≥ t by omega), Bool.false_and, Bool.and_false]
    rw [this] at h1; cases h1
  · rw [bt_hi ht hl g] at h2; cases h2
theorem pc_run {k j : Nat} (h : k + j < 31) : pc (nI (2 ^ k * (2 ^ j - 1))) = j := by
  have e : 2 ^ (k + j) - 1 = 2 ^ k * (2 ^ j - 1) + (2 ^ k - 1) := by
    have h1 : 0 < 2 ^ k := Nat.two_pow_pos k
    have h2 : 0 < 2 ^ j := Nat.two_pow_pos j
    rw [Nat.pow_add, Nat.mul_sub, Nat.mul_one]
    have : 2 ^ k * 1 ≤ 2 ^ k * 2 ^ j := Nat.mul_le_mul_left _ h2
    omega
  have h1 := p_m1 (k + j) (by omega)
  rw [e, pc_cat (by omega) (by have := Nat.two_pow_pos k; omega), p_m1 k (by omega)] at h1
  omega
theorem gos_xor {k j A : Nat} : (2 ^ (k + j + 1) * A + 2 ^ k * (2 ^ j - 1)) ^^^ (2 ^ (k + j + 1) * A + 2 ^ (k + j)) = 2 ^ k * (2 ^ (j + 1) - 1) := by
  have p1 : 0 < 2 ^ k := Nat.two_pow_pos k
  have p2 : 0 < 2 ^ j := Nat.two_pow_pos j
  have p3 : 2 ^ (k + j) = 2 ^ k * 2 ^ j := Nat.pow_add _ _ _
  have p4 : 2 ^ (k + j + 1) = 2 ^ k * 2 ^ j * 2 := by rw [Nat.pow_succ, p3]
  have l1 : 2 ^ k * (2 ^ j - 1) < 2 ^ (k + j + 1) := by
    rw [p4]
    have : 2 ^ k * (2 ^ j - 1) < 2 ^ k * 2 ^ j := (Nat.mul_lt_mul_left p1).mpr (by omega)
    omega
  have l2 : 2 ^ (k + j) < 2 ^ (k + j + 1) := Nat.pow_lt_pow_right (by decide) (by omega)
  apply Nat.eq_of_testBit_eq
  intro i
  rw [Nat.testBit_xor, Nat.testBit_two_pow_mul_add _ l1, Nat.testBit_two_pow_mul_add _ l2, Nat.testBit_two_pow_mul, Nat.testBit_two_pow_sub_one]
  by_cases g : i < k + j + 1
  · rw [if_pos g, if_pos g, Nat.testBit_two_pow_mul, Nat.testBit_two_pow_sub_one, Nat.testBit_two_pow]
    by_cases q : i ≥ k
    · rw [decide_eq_true q, Bool.true_and, Bool.true_and, decide_eq_true (show i - k < j + 1 by omega)]
      by_cases r : i - k < j
      · rw [decide_eq_true r, decide_eq_false (by omega)]; rfl
      · rw [decide_eq_false r, decide_eq_true (by omega)]; rfl
    · rw [decide_eq_false q, Bool.false_and, Bool.false_and, decide_eq_false (by omega)]; rfl
  · rw [if_neg g, if_neg g, Bool.xor_self, Nat.testBit_two_pow_mul, Nat.testBit_two_pow_sub_one, decide_eq_false (show ¬ i - k < j + 1 by omega), Bool.and_false]
/-- the next number of as many ones -/
theorem gos {x : Nat} (h0 : 0 < x) (hx : x < 2 ^ 30) : ∃ k y, nI x &&& -(nI x) = nI (2 ^ k) ∧ k < 31 ∧ nI x + nI (2 ^ k) ||| (((nI x ^^^ (nI x + nI (2 ^ k))) / nI (2 ^ k)) >>> ((2 : Int32) &&& 31)) = nI y ∧ x < y ∧ y < 2147483648 ∧ pc (nI y) = pc (nI x) ∧ ∀ z, x < z → z < y → pc (nI z) ≠ pc (nI x) := by
  obtain ⟨k, q, e⟩ := p_low x h0
  obtain ⟨j, A, e2⟩ := p_low (2 * q + 2) (by omega)
  have hj : 1 ≤ j := by
    rcases Nat.eq_zero_or_pos j with g | g
    · subst g; rw [Nat.pow_zero] at e2; omega
    · exact g
  have p1 : 0 < 2 ^ k := Nat.two_pow_pos k
  have p2 : 2 ^ 1 ≤ 2 ^ j := Nat.pow_le_pow_right (by decide) hj
  have p3 : 2 ^ (k + j) = 2 ^ k * 2 ^ j := Nat.pow_add _ _ _
  have p4 : 2 ^ (k + j + 1) = 2 * (2 ^ k * 2 ^ j) := by rw [Nat.pow_succ, p3, Nat.mul_comm]
  have p5 : 2 ^ j = 2 * 2 ^ (j - 1) := by rw [Nat.mul_comm, ← Nat.pow_succ]; congr 1; omega
  have p6 : 2 ^ (j + 1) = 2 * 2 ^ j := by rw [Nat.pow_succ, Nat.mul_comm]
  have p7 : 2 ^ k * 2 ^ j = 2 ^ k * (2 ^ j - 1) + 2 ^ k := by
    rw [Nat.mul_sub, Nat.mul_one]
    have : 2 ^ k * 1 ≤ 2 ^ k * 2 ^ j := Nat.mul_le_mul_left _ (by omega)
    omega
  have ex : x = 2 ^ (k + j + 1) * A + 2 ^ k * (2 ^ j - 1) := by
    have e3 : 2 * q + 1 = 2 ^ (j + 1) * A + (2 ^ j - 1) := by
      rw [p6]
      have : 2 ^ j * (2 * A + 1) = 2 * 2 ^ j * A + 2 ^ j := by rw [Nat.mul_add, Nat.mul_one, ← Nat.mul_assoc, Nat.mul_comm (2 ^ j) 2]
      omega
    rw [e, e3, Nat.mul_add, ← Nat.mul_assoc, ← Nat.pow_add]
    rfl
  have b1 : 2 ^ k * 2 ^ (j - 1) ≤ 2 ^ k * (2 ^ j - 1) := Nat.mul_le_mul_left _ (by omega)
  have b2 : 2 ^ (k + (j - 1)) = 2 ^ k * 2 ^ (j - 1) := Nat.pow_add _ _ _
  have hkj : k + (j - 1) < 30 := (Nat.pow_lt_pow_iff_right (a := 2) (by decide)).mp (by omega)
  have b3 : 2 ^ (k + j) ≤ 2 ^ 30 := Nat.pow_le_pow_right (by decide) (by omega)
  have b4 : x + 2 ^ k ≤ 2 ^ 30 := by
    have h1 : 2 ^ 30 = 2 ^ k * 2 ^ (30 - k) := by rw [← Nat.pow_add]; congr 1; omega
    have h2 : 2 * q + 1 < 2 ^ (30 - k) := by
      rw [e, h1] at hx
      exact (Nat.mul_lt_mul_left p1).mp hx
    have h3 : 2 ^ k * (2 * q + 1 + 1) ≤ 2 ^ k * 2 ^ (30 - k) := Nat.mul_le_mul_left _ h2
    rw [Nat.mul_add, Nat.mul_one, ← e, ← h1] at h3
    exact h3
  have b5 : 2 ^ (j - 1) ≤ 2 ^ 29 := Nat.pow_le_pow_right (by decide) (by omega)
  have b6 : 2 ^ (j - 1) < 2 ^ (k + j) := Nat.pow_lt_pow_right (by decide) (by omega)
  have b7 : 0 < 2 ^ (j - 1) := Nat.two_pow_pos _
  have e9 : x + 2 ^ k = 2 ^ (k + j + 1) * A + 2 ^ (k + j) := by omega
  have e9b : x + 2 ^ k = 2 ^ (k + j) * (2 * A + 1) := by
    rw [e9, Nat.mul_add, Nat.mul_one, p4, ← p3, ← Nat.mul_assoc, Nat.mul_comm (2 ^ (k + j)) 2]
  have lz : ∀ Z, Z < 2 ^ (k + j + 1) → pc (nI (2 ^ (k + j + 1) * A + Z)) = pc (nI (2 ^ (k + j + 1) * A)) + pc (nI Z) := fun Z hZ => pc_cat (by omega) hZ
  have rx : pc (nI (2 ^ k * (2 ^ j - 1))) = j := by
    rcases Nat.lt_or_ge (k + j) 31 with g | g
    · exact pc_run g
    · omega
  refine ⟨k, 2 ^ (k + j + 1) * A + (2 ^ (k + j) + (2 ^ (j - 1) - 1)), p_lowest (by omega) (by rw [un_nI (by omega)]; exact e), by omega, ?_, by omega, by omega, ?_, ?_⟩
  · rw [nI_add, nx_xor, e9]
    have h1 : x ^^^ (2 ^ (k + j + 1) * A + 2 ^ (k + j)) = 2 ^ k * (2 ^ (j + 1) - 1) := by
      conv => lhs; arg 1; rw [ex]
      exact gos_xor
    have h2 : 2 ^ k * (2 ^ (j + 1) - 1) < 2147483648 := by
      have : 2 ^ k * (2 ^ (j + 1) - 1) < 2 ^ k * 2 ^ (j + 1) := (Nat.mul_lt_mul_left p1).mpr (by omega)
      have t2 : 2 ^ k * 2 ^ (j + 1) = 2 * (2 ^ k * 2 ^ j) := by rw [p6, ← Nat.mul_assoc, Nat.mul_comm (2 ^ k) 2, Nat.mul_assoc]
      omega
    rw [h1, nDn _ _ h2 p1 (by omega), Nat.mul_div_cancel_left _ p1, show (2 : Int32) = nI 2 from rfl, n_shr (by omega) (by omega), ← e9, e9b, show (2 ^ (j + 1) - 1) / 2 ^ 2 = 2 ^ (j - 1) - 1 by omega, fa_or_sum _ (by omega), ← e9b, e9, Nat.add_assoc]
  · rw [lz _ (by omega), pc_add2 (by omega) (by omega), p_m1 _ (by omega)]
    conv => rhs; rw [ex]
    rw [lz _ (by omega), rx]
    omega
  · intro z z1 z2
    obtain ⟨Z, hZ⟩ : ∃ Z, z = 2 ^ (k + j + 1) * A + Z := ⟨z - 2 ^ (k + j + 1) * A, by omega⟩
    conv => rhs; rw [ex]
    rw [hZ, lz _ (by omega), lz _ (by omega), rx]
    intro hpc
    have hpc : pc (nI Z) = j := by omega
    rcases Nat.lt_or_ge Z (2 ^ (k + j)) with g | g
    · obtain ⟨W, hW⟩ : ∃ W, Z = 2 ^ k * (2 ^ j - 1) + W := ⟨Z - 2 ^ k * (2 ^ j - 1), by omega⟩
      rw [hW, pc_cat (by omega) (by omega), rx] at hpc
      have := pc_zero (u := W) (by omega) (by omega)
      omega
    · obtain ⟨W, hW⟩ : ∃ W, Z = 2 ^ (k + j) + W := ⟨Z - 2 ^ (k + j), by omega⟩
      rw [hW, pc_add2 (by omega) (by omega)] at hpc
      have := pc_full (u := W) (t := j - 1) (by omega) (by omega) (by omega)
      omega
section M80
variable {D : zD} {P : Nat → Nat} {nc c ns d w k : Nat} {cv : Nat → Int32}
theorem r_tells (h16 : gI D 102 16 = nI ns) (hn : ns ≤ 12) (h34 : gI D 102 34 = nI d) (hd : d ≤ 3) {s : Nat} (hs : s < ns) (X : Int32) : zok (fn_X12_tells (nI s) X D) fun r => (r = 1 ∧ tls ns (gI D 105) (2 * d) s X) ∨ (r = 0 ∧ ¬ tls ns (gI D 105) (2 * d) s X) := by
  refine z_inv ns (fun n o (_ : Unit) => fn_X12_tells_2 (nI s) X D n (nI o)) (fun o _ => ∀ u, u < o → u ≠ s → 2 * d < pc ((gI D 105 s ^^^ gI D 105 u) &&& X)) _ ?_ ?_ 0 zFU () (Nat.zero_le _) (zfu_gt (by omega)) fun u hu => absurd hu (Nat.not_lt_zero _)
  · intro n o _ ho g ih
    show zok (fn_X12_tells_2 (nI s) X D (n + 1) (nI o)) _
    rw [fn_X12_tells_2, h16, if_neg (nI_ge ho (by omega)), zck_nI (by omega) (by omega), zck_nI (by omega) (by omega), nI_clamp (by omega), nI_clamp (by omega), z_ones, Option.bind_some, h34, show (2 : Int32) * nI d = nI (2 * d) from pk_mul 2 _, nI_1]
    have p1 := pc_le ((gI D 105 s ^^^ gI D 105 o) &&& X)
    have j1 := nEq o s (by omega) (by omega)
    have j2 := nLt (2 * d) (pc ((gI D 105 s ^^^ gI D 105 o) &&& X)) (by omega) (by omega)
    by_cases q : o = s
    · rw [if_pos (j1.mpr q)]
      exact ih () fun u hu hus => g u (by omega) hus
    · rw [if_neg (fun r => q (j1.mp r))]
      by_cases q2 : 2 * d < pc ((gI D 105 s ^^^ gI D 105 o) &&& X)
      · rw [if_pos (j2.mpr q2)]
        refine ih () fun u hu hus => ?_
        by_cases r : u = o
        · rw [r]; exact q2
        · exact g u (by omega) hus
      · rw [if_neg (fun r => q2 (j2.mp r)), zok_some]
        exact Or.inr ⟨rfl, fun h => q2 (h o ho q)⟩
  · intro n _ g
    show zok (fn_X12_tells_2 (nI s) X D (n + 1) (nI ns)) _
    rw [fn_X12_tells_2, h16, if_pos (nI_le (Nat.le_refl _) (by omega)), zok_some]
    exact Or.inl ⟨rfl, fun o ho hos => g o ho hos⟩
theorem r_firstPart (h14 : gI D 102 14 = nI w) (h15 : gI D 102 15 = nI k) (hw : w ≤ 6) (hk : k ≤ 5) (h16 : gI D 102 16 = nI ns) (hn : ns ≤ 12) (h34 : gI D 102 34 = nI d) (hd : d ≤ 3) {s z : Nat} (hs : s < ns) (hz : z ≤ 6) : zok (fn_X12_firstPart (nI s) (nI z) D) fun r => (r = -1 ∧ ∀ T, T < 2 ^ (w * k) → pc (nI T) = z → ¬ tls ns (gI D 105) (2 * d) s (nI T)) ∨ (∃ T, T < 2 ^ (w * k) ∧ r = nI T ∧ tls ns (gI D 105) (2 * d) s (nI T) ∧ pc (nI T) = z ∧ ∀ U, U < T → pc (nI U) = z → ¬ tls ns (gI D 105) (2 * d) s (nI U)) := by
  have h30 := wh_le hw hk
  have hp : 2 ^ (w * k) ≤ 2 ^ 30 := Nat.pow_le_pow_right (by decide) h30
  have hp0 : 0 < 2 ^ (w * k) := Nat.two_pow_pos _
  unfold fn_X12_firstPart
  have j1 := nEq0 z (by omega)
  by_cases q : z = 0
  · rw [if_pos (j1.mpr q)]
    refine (r_tells h16 hn h34 hd hs 0).bind fun r hr => ?_
    rcases hr with ⟨rfl, hr⟩ | ⟨rfl, hr⟩
    · rw [if_neg (by decide), zok_some]
      exact Or.inr ⟨0, hp0, rfl, hr, by rw [q]; exact pc_0, fun U hU => absurd hU (Nat.not_lt_zero _)⟩
    · rw [if_pos rfl, zok_some]
      refine Or.inl ⟨rfl, fun T t1 t2 => ?_⟩
      have := pc_zero (u := T) (by omega) (by omega)
      rw [this]
      exact hr
  · rw [if_neg (fun r => q (j1.mp r)), bd_eq z (by omega), zlet_eq]
    have hz6 : 2 ^ z ≤ 2 ^ 6 := Nat.pow_le_pow_right (by decide) hz
    have hz1 : 2 ^ 1 ≤ 2 ^ z := Nat.pow_le_pow_right (by decide) (by omega)
    refine (show zok _ _ from z_mea (fun n (x : Nat) => fn_X12_firstPart_25 (nI s) (nI z) D n (nI x)) (fun x => 0 < x ∧ x < 2147483648 ∧ pc (nI x) = z ∧ ∀ V, V < x → pc (nI V) = z → ¬ tls ns (gI D 105) (2 * d) s (nI V)) (fun x => 2147483648 - x) _ ?_ zFU (2 ^ z - 1) (by unfold zFU; omega) ⟨by omega, by omega, p_m1 z (by omega), fun V v1 v2 => ?_⟩)
    · intro n x ⟨g1, g2, g3, g4⟩ ih
      show zok (fn_X12_firstPart_25 (nI s) (nI z) D (n + 1) (nI x)) _
      have j2 := nLt (2 ^ (w * k) - 1) x (by omega) (by omega)
      have j3 := nLe0 x (by omega)
      rw [fn_X12_firstPart_25, x_allCells h14 h15 hw hk, Option.bind_some]
      by_cases q2 : 2 ^ (w * k) - 1 < x
      · rw [if_pos (j2.mpr q2), zok_some]
        exact Or.inl ⟨rfl, fun T t1 t2 => g4 T (by omega) t2⟩
      · rw [if_neg (fun r => q2 (j2.mp r)), if_neg (fun r => by have := j3.mp r; omega)]
        refine (r_tells h16 hn h34 hd hs (nI x)).bind fun r hr => ?_
        rcases hr with ⟨rfl, hr⟩ | ⟨rfl, hr⟩
        · rw [if_neg (by decide), zok_some]
          exact Or.inr ⟨x, by omega, rfl, hr, g3, g4⟩
        · obtain ⟨k2, y, y1, y2, y3, y4, y5, y6, y7⟩ := gos g1 (by omega)
          have hpk : 2 ^ k2 ≤ 2 ^ 30 := Nat.pow_le_pow_right (by decide) (by omega)
          rw [if_pos rfl, zlet_eq, zlet_eq, y1, zdv_nI (Nat.two_pow_pos _) (by omega), zlet_eq, y3]
          refine ih y ⟨by omega, y5, by rw [y6, g3], fun V v1 v2 => ?_⟩ (by show 2147483648 - y < 2147483648 - x; omega)
          rcases Nat.lt_trichotomy V x with g | g | g
          · exact g4 V g v2
          · rw [g]; exact hr
          · exact absurd (by rw [v2, g3]) (y7 V g v1)
    · have := pc_full (u := V) (t := z) (by omega) (by omega) v2
      omega
theorem r_least52 (h14 : gI D 102 14 = nI w) (h15 : gI D 102 15 = nI k) (hw : w ≤ 6) (hk : k ≤ 5) (h16 : gI D 102 16 = nI ns) (hn : ns ≤ 12) (h34 : gI D 102 34 = nI d) (hd : d ≤ 3) {s : Nat} (hs : s < ns) {v : Nat} (hv : v < 2) : zok (fn_X12_least_52 (nI s) (nI v) zFU 0 D) fun q => q.2 = D ∧ ∃ n b, sp_le (w * k) ns (gI D 105) (2 * d) s n b ∧ q.1 = if v = 0 then n else b := by
  have h30 := wh_le hw hk
  have hp : 2 ^ (w * k) ≤ 2 ^ 30 := Nat.pow_le_pow_right (by decide) h30
  refine z_inv 7 (fun n z (_ : Unit) => fn_X12_least_52 (nI s) (nI v) n (nI z) D) (fun z _ => ∀ T, T < 2 ^ (w * k) → tls ns (gI D 105) (2 * d) s (nI T) → z ≤ pc (nI T)) _ ?_ ?_ 0 zFU () (Nat.zero_le _) (zfu_gt (by omega)) fun _ _ _ => Nat.zero_le _
  · intro n z _ hz g ih
    show zok (fn_X12_least_52 (nI s) (nI v) (n + 1) (nI z) D) _
    rw [fn_X12_least_52, if_neg (show ¬ (7 : Int32) ≤ nI z from nI_ge (b := 7) hz (by omega)), nI_1]
    refine (r_firstPart h14 h15 hw hk h16 hn h34 hd hs (by omega)).bind fun r hr => ?_
    rcases hr with ⟨rfl, hr⟩ | ⟨T, t1, rfl, t2, t3, t4⟩
    · rw [if_pos rfl]
      refine ih () fun T t1 t2 => ?_
      have := g T t1 t2
      rcases Nat.lt_or_eq_of_le this with q | q
      · exact q
      · exact absurd t2 (hr T t1 q.symm)
    · rw [if_neg (fun q => (nM1 _ (by omega)).mp q)]
      unfold fn_X12_least_72
      have sp : sp_le (w * k) ns (gI D 105) (2 * d) s (nI z) (nI T) := Or.inl ⟨T, t1, t2, by omega, fun U u1 u2 => by rw [t3]; exact g U u1 u2, fun U u1 u2 => t4 U u1 (by rw [u2, t3]), by rw [t3], rfl⟩
      rcases (show v = 0 ∨ v = 1 by omega) with rfl | rfl
      · rw [if_pos (show nI 0 = 0 from rfl), zok_some]
        exact ⟨rfl, _, _, sp, by rw [if_pos rfl]⟩
      · rw [if_neg (show ¬ nI 1 = 0 by decide), zok_some]
        exact ⟨rfl, _, _, sp, by rw [if_neg (by decide)]⟩
  · intro n _ g
    show zok (fn_X12_least_52 (nI s) (nI v) (n + 1) (nI 7) D) _
    rw [fn_X12_least_52, if_pos (show (7 : Int32) ≤ nI 7 by decide), zok_some]
    exact ⟨rfl, -1, -1, Or.inr ⟨fun T t1 t2 => g T t1 t2, rfl, rfl⟩, by split <;> rfl⟩
end M80
