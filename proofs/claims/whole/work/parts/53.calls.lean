/-! THE MATHEMATICS: one call of the script, both answers; the calls that look and store alone -/
def zq (m : Nat) (r : Int32 × Nat × zD) : Prop := r.1 = 1 ∧ r.2.1 ≤ m
theorem addx_ok {c : Option (Int32 × Nat × zD)} {m e : Nat} (h : zok c (zq m)) (he : e ≤ 1) : zok (addx e c) (zq (m + 1)) := by
  obtain ⟨b, rfl, h1, h2⟩ := h
  exact ⟨(b.1, e + b.2.1, b.2.2), rfl, h1, by show e + b.2.1 ≤ m + 1; omega⟩
theorem zq.up {c : Option (Int32 × Nat × zD)} {m : Nat} (h : zok c (zq m)) : zok c (zq (m + 1)) := h.mono fun _ q => ⟨q.1, Nat.le_succ_of_le q.2⟩
def rel (g : Nat → Option Int32) (r : Nat ⊕ Int32) (t b : Int32) : Prop := match r with
  | .inl e => g e = some t ∧ t ≠ 0
  | .inr v => t = 0 ∧ b = v
def ivx (D : zD) : Prop := ∃ P, iv P D
theorem iv.int {D E : zD} {P : Nat → Nat} (h : iv P D) (e : E.2 = D.2) : iv P E :=
  h.keep (fun a b _ => by show E.2 a b = D.2 a b; rw [e]) (fun a b _ => by show E.2 a b = D.2 a b; rw [e]) (fun a b _ => by show E.2 a b = D.2 a b; rw [e])
theorem iv.thr {D : zD} {P : Nat → Nat} (h : iv P D) (x : Int32) : iv P (sI D 102 0 x) :=
  h.keep (ag.refl.sI (by unfold pcr pA pB pS pI pT; omega)) (ag.refl.sI (by unfold pK; omega)) (ag.refl.sI (by unfold pO; omega))
/-- the class's call, and the reference's behind it -/
def twin (g : Nat → Option Int32) (cl : Option ((Nat ⊕ Int32) × zD)) (rf : zD → Option (Int32 × zD)) : Prop :=
  zok cl fun q => ∀ E, E.2 = q.2.2 → zok (rf E) fun r => ivx r.2 ∧ rel g q.1 (gI r.2 102 0) r.1 ∧ gL r.2 206 0 = gL E 206 0
/-- a call that throws nothing -/
def duo (cl rf : zD → Option (Int32 × zD)) (D : zD) : Prop := zok (cl D) fun q => zok (rf q.2) fun r => ivx r.2 ∧ r.1 = q.1
theorem lg_same (x : Int64) : lg_cmp x x = 0 := by
  unfold lg_cmp
  rw [if_neg (by rw [gt_iff_lt, fa_lt64]; omega), if_pos rfl]
theorem fc_tw {g : Nat → Option Int32} {cl : Option ((Nat ⊕ Int32) × zD)} {rf : zD → Option (Int32 × zD)} {k : zD → Option (Int32 × Nat × zD)} {m : Nat} (h : twin g cl rf) (hk : ∀ D, ivx D → zok (k D) (zq m)) :
    zok (fwA (fW g cl) fun x2 D3 => (rf D3).bind fun q5 => (fn_X12_thrown q5.2).bind fun x6 => (if x6 = x2 then ((if x2 = 0 then ((if (lg_cmp (gL q5.2 206 0) (q5.1).toInt64) = 0 then ((k q5.2)) else ((some ((0 : Int32), 0, q5.2))))) else ((k q5.2)))) else ((some ((0 : Int32), 0, q5.2))))) (zq (m + 1)) := by
  obtain ⟨⟨r, D1⟩, rfl, h⟩ := h
  cases r with
  | inr v =>
    obtain ⟨⟨b, D2⟩, e, hi, ⟨ht, hb⟩, hl⟩ := h (sL D1 206 0 v.toInt64) rfl
    show zok (addx 0 ((rf (sL D1 206 0 v.toInt64)).bind _)) _
    refine addx_ok ?_ (by omega)
    rw [e, Option.bind_some]
    unfold fn_X12_thrown
    rw [Option.bind_some, if_pos ht, if_pos rfl]
    have e3 : b = v := hb
    have e4 : gL D2 206 0 = v.toInt64 := hl.trans gL_eq
    rw [if_pos (by rw [e4, e3]; exact lg_same _)]
    exact hk D2 hi
  | inl t =>
    obtain ⟨⟨b, D2⟩, e, hi, ⟨hg, ht⟩, hl⟩ := h D1 rfl
    have e5 : fW g (some (.inl t, D1)) = some (gI D2 102 0, 1, D1) := by
      show (g t).map _ = _
      rw [hg]
      rfl
    rw [e5]
    show zok (addx 1 ((rf D1).bind _)) _
    refine addx_ok ?_ (by omega)
    rw [e, Option.bind_some]
    unfold fn_X12_thrown
    rw [Option.bind_some, if_pos rfl, if_neg ht]
    exact hk D2 hi
theorem fc_du {cl rf : zD → Option (Int32 × zD)} {k : zD → Option (Int32 × Nat × zD)} {D : zD} {m : Nat} (h : duo cl rf D) (hk : ∀ D, ivx D → zok (k D) (zq m)) :
    zok ((cl D).bind fun q1 => (rf q1.2).bind fun q2 => (if q1.1 = q2.1 then ((k q2.2)) else ((some ((0 : Int32), 0, q2.2))))) (zq m) := by
  obtain ⟨⟨b, D1⟩, e, ⟨c, D2⟩, e2, hi, hb⟩ := h
  rw [e, Option.bind_some, e2, Option.bind_some]
  have e3 : b = c := hb.symm
  rw [if_pos e3]
  exact hk D2 hi
theorem rS_p (D : zD) {k : Nat} (h : k < 6) : rS D (3 + 2 * k) = gI D (163 + k) 0 ∧ rS D (4 + 2 * k) = gI D (163 + k) 1 := by
  unfold rS
  rw [if_neg (by omega), if_pos (by omega), if_neg (by omega), if_pos (by omega), show (3 + 2 * k - 3) / 2 = k by omega, show (3 + 2 * k - 3) % 2 = 0 by omega, show (4 + 2 * k - 3) / 2 = k by omega, show (4 + 2 * k - 3) % 2 = 1 by omega]
  exact ⟨rfl, rfl⟩
theorem rS_t (D : zD) {k : Nat} (h : k < 8) : rS D (15 + 3 * k) = gI D (170 + k) 0 ∧ rS D (16 + 3 * k) = gI D (170 + k) 1 ∧ rS D (17 + 3 * k) = gI D (170 + k) 2 := by
  unfold rS
  rw [if_neg (by omega), if_neg (by omega), if_neg (by omega), if_neg (by omega), if_neg (by omega), if_neg (by omega), show (15 + 3 * k - 15) / 3 = k by omega, show (15 + 3 * k - 15) % 3 = 0 by omega, show (16 + 3 * k - 15) / 3 = k by omega, show (16 + 3 * k - 15) % 3 = 1 by omega, show (17 + 3 * k - 15) / 3 = k by omega, show (17 + 3 * k - 15) % 3 = 2 by omega]
  exact ⟨rfl, rfl, rfl⟩
/-- a number in 0 to n - 1, told by the reference -/
theorem x_inN {v : Int32} {n : Nat} (hn : n < 2147483648) : (fn_X12_in v 0 (nI n - 1) = some 0 ∧ (v < 0 ∨ nI n ≤ v)) ∨ (fn_X12_in v 0 (nI n - 1) = some 1 ∧ ∃ j, j < n ∧ v = nI j) := by
  rcases pk_ix v (n := n) (by omega) with h | h | ⟨j, hj, rfl⟩
  · left
    exact ⟨by rw [x_in, if_pos h], Or.inl h⟩
  · left
    refine ⟨?_, Or.inr h⟩
    rw [x_in]
    by_cases g : v < 0
    · rw [if_pos g]
    · rw [if_neg g, if_pos]
      obtain ⟨j, hj, rfl⟩ := nI_of g
      have h2 := (nI_leI (by omega) hj).mp h
      rcases Nat.eq_zero_or_pos n with e | e
      · subst e
        exact (m1Lt j hj).mpr trivial
      · rw [show nI n - 1 = nI (n - 1) from pk_sub (b := 1) e, nI_ltI (by omega) hj]
        omega
  · right
    refine ⟨?_, j, hj, rfl⟩
    rw [x_in, if_neg (nI_pos (by omega)), if_neg]
    rw [show nI n - 1 = nI (n - 1) from pk_sub (b := 1) (by omega), nI_ltI (by omega) (by omega)]
    omega
theorem x_inK {v : Int32} {n : Nat} (hn : n < 2147483647) : (fn_X12_in v 0 (nI n) = some 0 ∧ (v < 0 ∨ nI (n + 1) ≤ v)) ∨ (fn_X12_in v 0 (nI n) = some 1 ∧ ∃ j, j < n + 1 ∧ v = nI j) := by
  have h := x_inN (v := v) (n := n + 1) (by omega)
  rw [show nI (n + 1) - 1 = nI n from nI_pred n] at h
  exact h
theorem x_isSign {D : zD} {n : Nat} (h : gI D 102 16 = nI n) (hn : n ≤ 12) (v : Int32) : (fn_X12_isSign v D = some 0 ∧ (v < 0 ∨ nI n ≤ v)) ∨ (fn_X12_isSign v D = some 1 ∧ ∃ j, j < n ∧ v = nI j) := by
  unfold fn_X12_isSign
  rw [h]
  rcases x_inN (v := v) (n := n) (by omega) with ⟨e, g⟩ | ⟨e, g⟩
  · left; exact ⟨by rw [e, Option.bind_some, zcb_0], g⟩
  · right; exact ⟨by rw [e, Option.bind_some, zcb_1], g⟩
theorem x_isCover {D : zD} {n : Nat} (h : gI D 102 26 = nI n) (hn : n ≤ 500) (v : Int32) : (fn_X12_isCover v D = some 0 ∧ (v < 0 ∨ nI n ≤ v)) ∨ (fn_X12_isCover v D = some 1 ∧ ∃ j, j < n ∧ v = nI j) := by
  unfold fn_X12_isCover
  rw [h]
  rcases x_inN (v := v) (n := n) (by omega) with ⟨e, g⟩ | ⟨e, g⟩
  · left; exact ⟨by rw [e, Option.bind_some, zcb_0], g⟩
  · right; exact ⟨by rw [e, Option.bind_some, zcb_1], g⟩
theorem x_isStanding {D : zD} {n : Nat} (h : gI D 102 36 = nI n) (hn : n ≤ 8) (v : Int32) : (fn_X12_isStanding v D = some 0 ∧ (v < 0 ∨ nI n ≤ v)) ∨ (fn_X12_isStanding v D = some 1 ∧ ∃ j, j < n ∧ v = nI j) := by
  unfold fn_X12_isStanding
  rw [h]
  rcases x_inN (v := v) (n := n) (by omega) with ⟨e, g⟩ | ⟨e, g⟩
  · left; exact ⟨by rw [e, Option.bind_some, zcb_0], g⟩
  · right; exact ⟨by rw [e, Option.bind_some, zcb_1], g⟩
theorem y_out {v : Int32} {n : Nat} (h : v < 0 ∨ nI n ≤ v) {α : Type} (a b : α) : (if v < 0 then a else if v < nI n then b else a) = a := by
  by_cases g : v < 0
  · rw [if_pos g]
  · rw [if_neg g]
    rcases h with h | h
    · exact absurd h g
    · rw [if_neg]
      intro q
      have h1 := (fa_le _ _).mp h
      have h2 := (fa_lt _ _).mp q
      omega
theorem y_outK {v : Int32} {n : Nat} (h : v < 0 ∨ nI (n + 1) ≤ v) (hn : n < 1000000) {α : Type} (a b : α) : (if v < 0 then a else if v ≤ nI n then b else a) = a := by
  by_cases g : v < 0
  · rw [if_pos g]
  · rw [if_neg g]
    rcases h with h | h
    · exact absurd h g
    · rw [if_neg]
      intro q
      have h1 := (fa_le _ _).mp h
      have h2 := (fa_le _ _).mp q
      rw [nI_toInt (by omega)] at h1 h2
      omega
/-! both throw; both answer, nothing stored -/
theorem twin_t {g : Nat → Option Int32} {D : zD} {P : Nat → Nat} {c : Option (Nat ⊕ Int32)} {rf : zD → Option (Int32 × zD)} {e : Nat} {t : Int32} (h : iv P D) (hg : g e = some t) (ht : t ≠ 0) (hc : c = some (.inl e)) (hr : ∀ E, iv P E → E.2 = D.2 → rf E = some (0, sI (sI E 102 0 0) 102 0 t)) : twin g (wP D c) rf := by
  rw [hc]
  refine zok_some.mpr fun E hE => ?_
  have hi := h.int hE
  rw [hr E hi hE, zok_some]
  exact ⟨⟨P, (hi.thr 0).thr t⟩, ⟨by rw [gI_eq]; exact hg, by rw [gI_eq]; exact ht⟩, rfl⟩
theorem twin_v {g : Nat → Option Int32} {D : zD} {P : Nat → Nat} {c : Option (Nat ⊕ Int32)} {rf : zD → Option (Int32 × zD)} {v : Int32} (h : iv P D) (hc : c = some (.inr v)) (hr : ∀ E, iv P E → E.2 = D.2 → rf E = some (v, sI E 102 0 0)) : twin g (wP D c) rf := by
  rw [hc]
  refine zok_some.mpr fun E hE => ?_
  have hi := h.int hE
  rw [hr E hi hE, zok_some]
  exact ⟨⟨P, hi.thr 0⟩, ⟨gI_eq, rfl⟩, rfl⟩
theorem gE {D E : zD} (hE : E.2 = D.2) (a b : Nat) : gI D a b = gI E a b := by show D.2 a b = E.2 a b; rw [hE]
/-! the calls -/
theorem t_fault {D : zD} {P : Nat → Nat} (h : iv P D) : duo (fun D => (fn_X11_fault D).map fun x => (x, D)) fn_X12_fault D := by
  have h' := h
  obtain ⟨⟨⟨hb, ⟨a0, a1, a2, a3⟩, ⟨b0, b1, b2, b3⟩, hs, hw⟩, ⟨hc, c1, c2, hcv⟩, ⟨hd, ⟨z0, z1, z2⟩, ⟨y0, y1, y2⟩, hp, ht⟩, ⟨hi, i0, i1, him⟩, ⟨hta, ta0, ta1, hpl, htb⟩⟩, hK, hO⟩ := h
  replace y0 : gI _ 102 34 = nI (P 5) := y0
  replace y1 : gI _ 102 35 = nI (P 6) := y1
  replace y2 : gI _ 102 36 = nI (P 7) := y2
  refine zok_some.mpr (zok_some.mpr ⟨⟨P, h'.thr 0⟩, ?_⟩)
  show gI (sI D 102 0 0) 102 3 = gI D 2 4
  rw [gI_nb (by omega), hpl]
theorem t_told {D : zD} {P : Nat → Nat} (h : iv P D) (v : Int32) : twin (wk1 1) (wP D (fn_X11_told v D)) (fn_X12_told v) := by
  rcases x_inK (v := v) (n := 5) (by omega) with ⟨e, g⟩ | ⟨e, j, hj, rfl⟩
  · refine twin_t h (e := 1) (t := 1) rfl (by decide) ?_ fun E hE _ => ?_
    · unfold fn_X11_told
      have hne : ∀ k, k ≤ 5 → v ≠ nI k := by
        intro k hk q
        subst q
        rcases g with g | g
        · exact nI_pos (by omega) g
        · rw [nI_leI (by omega) (by omega)] at g; omega
      rw [if_neg (show ¬ v = 0 from hne 0 (by omega)), if_neg (show ¬ v = 1 from hne 1 (by omega)), if_neg (show ¬ v = 2 from hne 2 (by omega)), if_neg (show ¬ v = 3 from hne 3 (by omega)), if_neg (show ¬ v = 4 from hne 4 (by omega)), if_neg (show ¬ v = 5 from hne 5 (by omega))]
    · unfold fn_X12_told fn_X12_told_20
      simp (disch := omega) only [Option.bind_some, Option.map_some, zlet_eq, ↓reduceIte, L_2, L_3, L_4, L_5, L_6, L_7, L_8, L_9, L_10, L_12, L_13, L_20, L_24, L_25, L_26, L_27, L_30, L_32, L_33, L_34, L_40, L_48, L_57, L_58, L_60, L_64, L_90, L_93, L_97, L_99, L_100, L_122, L_144, L_255, L_364, L_480, L_500, L_800, L_1000, L_100000, L_4096, L_1023, L_1024, nLe, nLt, nEq, nI_1, nI_add, pk_mul, nSn, nDn, nCl, zck_nI, zdv_nI, nNeg, nLe0, n0Lt, nEq0, nM1, m1N, m1Lt, nLm1, zcb_0, zcb_1, i10, i01, nEq1, n1Eq, nLt1, gI_eq, gI_nb, gI_na, x_badF, x_badT1, x_badT2, bt_0, bt_1, bit1_u, Bool.true_eq_false, Bool.false_eq_true, eq_self, Int32.or_zero, if_pos, if_neg, e]
  · have h' := h
    obtain ⟨⟨⟨hb, ⟨a0, a1, a2, a3⟩, ⟨b0, b1, b2, b3⟩, hs, hw⟩, ⟨hc, c1, c2, hcv⟩, ⟨hd, ⟨z0, z1, z2⟩, ⟨y0, y1, y2⟩, hp, ht⟩, ⟨hi, i0, i1, him⟩, ⟨hta, ta0, ta1, hpl, htb⟩⟩, hK, hO⟩ := h
    replace y0 : gI _ 102 34 = nI (P 5) := y0
    replace y1 : gI _ 102 35 = nI (P 6) := y1
    replace y2 : gI _ 102 36 = nI (P 7) := y2
    rcases (show j = 0 ∨ j = 1 ∨ j = 2 ∨ j = 3 ∨ j = 4 ∨ j = 5 by omega) with rfl | rfl | rfl | rfl | rfl | rfl
    · refine twin_v h' (v := nI (P 2)) (by unfold fn_X11_told; simp (disch := omega) only [Option.bind_some, Option.map_some, zlet_eq, ↓reduceIte, L_2, L_3, L_4, L_5, L_6, L_7, L_8, L_9, L_10, L_12, L_13, L_20, L_24, L_25, L_26, L_27, L_30, L_32, L_33, L_34, L_40, L_48, L_57, L_58, L_60, L_64, L_90, L_93, L_97, L_99, L_100, L_122, L_144, L_255, L_364, L_480, L_500, L_800, L_1000, L_100000, L_4096, L_1023, L_1024, nLe, nLt, nEq, nI_1, nI_add, pk_mul, nSn, nDn, nCl, zck_nI, zdv_nI, nNeg, nLe0, n0Lt, nEq0, nM1, m1N, m1Lt, nLm1, zcb_0, zcb_1, i10, i01, nEq1, n1Eq, nLt1, gI_eq, gI_nb, gI_na, x_badF, x_badT1, x_badT2, bt_0, bt_1, bit1_u, Bool.true_eq_false, Bool.false_eq_true, eq_self, Int32.or_zero, if_pos, if_neg, a2]) fun E hE he => ?_
      unfold fn_X12_told fn_X12_told_20
      rw [gE he] at b2
      simp (disch := omega) only [Option.bind_some, Option.map_some, zlet_eq, ↓reduceIte, L_2, L_3, L_4, L_5, L_6, L_7, L_8, L_9, L_10, L_12, L_13, L_20, L_24, L_25, L_26, L_27, L_30, L_32, L_33, L_34, L_40, L_48, L_57, L_58, L_60, L_64, L_90, L_93, L_97, L_99, L_100, L_122, L_144, L_255, L_364, L_480, L_500, L_800, L_1000, L_100000, L_4096, L_1023, L_1024, nLe, nLt, nEq, nI_1, nI_add, pk_mul, nSn, nDn, nCl, zck_nI, zdv_nI, nNeg, nLe0, n0Lt, nEq0, nM1, m1N, m1Lt, nLm1, zcb_0, zcb_1, i10, i01, nEq1, n1Eq, nLt1, gI_eq, gI_nb, gI_na, x_badF, x_badT1, x_badT2, bt_0, bt_1, bit1_u, Bool.true_eq_false, Bool.false_eq_true, eq_self, Int32.or_zero, if_pos, if_neg, e, b2]
    · refine twin_v h' (v := nI (P 0)) (by unfold fn_X11_told; simp (disch := omega) only [Option.bind_some, Option.map_some, zlet_eq, ↓reduceIte, L_2, L_3, L_4, L_5, L_6, L_7, L_8, L_9, L_10, L_12, L_13, L_20, L_24, L_25, L_26, L_27, L_30, L_32, L_33, L_34, L_40, L_48, L_57, L_58, L_60, L_64, L_90, L_93, L_97, L_99, L_100, L_122, L_144, L_255, L_364, L_480, L_500, L_800, L_1000, L_100000, L_4096, L_1023, L_1024, nLe, nLt, nEq, nI_1, nI_add, pk_mul, nSn, nDn, nCl, zck_nI, zdv_nI, nNeg, nLe0, n0Lt, nEq0, nM1, m1N, m1Lt, nLm1, zcb_0, zcb_1, i10, i01, nEq1, n1Eq, nLt1, gI_eq, gI_nb, gI_na, x_badF, x_badT1, x_badT2, bt_0, bt_1, bit1_u, Bool.true_eq_false, Bool.false_eq_true, eq_self, Int32.or_zero, if_pos, if_neg, a0]) fun E hE he => ?_
      unfold fn_X12_told fn_X12_told_20
      rw [gE he] at b0
      simp (disch := omega) only [Option.bind_some, Option.map_some, zlet_eq, ↓reduceIte, L_2, L_3, L_4, L_5, L_6, L_7, L_8, L_9, L_10, L_12, L_13, L_20, L_24, L_25, L_26, L_27, L_30, L_32, L_33, L_34, L_40, L_48, L_57, L_58, L_60, L_64, L_90, L_93, L_97, L_99, L_100, L_122, L_144, L_255, L_364, L_480, L_500, L_800, L_1000, L_100000, L_4096, L_1023, L_1024, nLe, nLt, nEq, nI_1, nI_add, pk_mul, nSn, nDn, nCl, zck_nI, zdv_nI, nNeg, nLe0, n0Lt, nEq0, nM1, m1N, m1Lt, nLm1, zcb_0, zcb_1, i10, i01, nEq1, n1Eq, nLt1, gI_eq, gI_nb, gI_na, x_badF, x_badT1, x_badT2, bt_0, bt_1, bit1_u, Bool.true_eq_false, Bool.false_eq_true, eq_self, Int32.or_zero, if_pos, if_neg, e, b0]
    · refine twin_v h' (v := nI (P 1)) (by unfold fn_X11_told; simp (disch := omega) only [Option.bind_some, Option.map_some, zlet_eq, ↓reduceIte, L_2, L_3, L_4, L_5, L_6, L_7, L_8, L_9, L_10, L_12, L_13, L_20, L_24, L_25, L_26, L_27, L_30, L_32, L_33, L_34, L_40, L_48, L_57, L_58, L_60, L_64, L_90, L_93, L_97, L_99, L_100, L_122, L_144, L_255, L_364, L_480, L_500, L_800, L_1000, L_100000, L_4096, L_1023, L_1024, nLe, nLt, nEq, nI_1, nI_add, pk_mul, nSn, nDn, nCl, zck_nI, zdv_nI, nNeg, nLe0, n0Lt, nEq0, nM1, m1N, m1Lt, nLm1, zcb_0, zcb_1, i10, i01, nEq1, n1Eq, nLt1, gI_eq, gI_nb, gI_na, x_badF, x_badT1, x_badT2, bt_0, bt_1, bit1_u, Bool.true_eq_false, Bool.false_eq_true, eq_self, Int32.or_zero, if_pos, if_neg, a1]) fun E hE he => ?_
      unfold fn_X12_told fn_X12_told_20
      rw [gE he] at b1
      simp (disch := omega) only [Option.bind_some, Option.map_some, zlet_eq, ↓reduceIte, L_2, L_3, L_4, L_5, L_6, L_7, L_8, L_9, L_10, L_12, L_13, L_20, L_24, L_25, L_26, L_27, L_30, L_32, L_33, L_34, L_40, L_48, L_57, L_58, L_60, L_64, L_90, L_93, L_97, L_99, L_100, L_122, L_144, L_255, L_364, L_480, L_500, L_800, L_1000, L_100000, L_4096, L_1023, L_1024, nLe, nLt, nEq, nI_1, nI_add, pk_mul, nSn, nDn, nCl, zck_nI, zdv_nI, nNeg, nLe0, n0Lt, nEq0, nM1, m1N, m1Lt, nLm1, zcb_0, zcb_1, i10, i01, nEq1, n1Eq, nLt1, gI_eq, gI_nb, gI_na, x_badF, x_badT1, x_badT2, bt_0, bt_1, bit1_u, Bool.true_eq_false, Bool.false_eq_true, eq_self, Int32.or_zero, if_pos, if_neg, e, b1]
    · refine twin_v h' (v := nI (P 3)) (by unfold fn_X11_told; simp (disch := omega) only [Option.bind_some, Option.map_some, zlet_eq, ↓reduceIte, L_2, L_3, L_4, L_5, L_6, L_7, L_8, L_9, L_10, L_12, L_13, L_20, L_24, L_25, L_26, L_27, L_30, L_32, L_33, L_34, L_40, L_48, L_57, L_58, L_60, L_64, L_90, L_93, L_97, L_99, L_100, L_122, L_144, L_255, L_364, L_480, L_500, L_800, L_1000, L_100000, L_4096, L_1023, L_1024, nLe, nLt, nEq, nI_1, nI_add, pk_mul, nSn, nDn, nCl, zck_nI, zdv_nI, nNeg, nLe0, n0Lt, nEq0, nM1, m1N, m1Lt, nLm1, zcb_0, zcb_1, i10, i01, nEq1, n1Eq, nLt1, gI_eq, gI_nb, gI_na, x_badF, x_badT1, x_badT2, bt_0, bt_1, bit1_u, Bool.true_eq_false, Bool.false_eq_true, eq_self, Int32.or_zero, if_pos, if_neg, a3]) fun E hE he => ?_
      unfold fn_X12_told fn_X12_told_20
      rw [gE he] at b3
      simp (disch := omega) only [Option.bind_some, Option.map_some, zlet_eq, ↓reduceIte, L_2, L_3, L_4, L_5, L_6, L_7, L_8, L_9, L_10, L_12, L_13, L_20, L_24, L_25, L_26, L_27, L_30, L_32, L_33, L_34, L_40, L_48, L_57, L_58, L_60, L_64, L_90, L_93, L_97, L_99, L_100, L_122, L_144, L_255, L_364, L_480, L_500, L_800, L_1000, L_100000, L_4096, L_1023, L_1024, nLe, nLt, nEq, nI_1, nI_add, pk_mul, nSn, nDn, nCl, zck_nI, zdv_nI, nNeg, nLe0, n0Lt, nEq0, nM1, m1N, m1Lt, nLm1, zcb_0, zcb_1, i10, i01, nEq1, n1Eq, nLt1, gI_eq, gI_nb, gI_na, x_badF, x_badT1, x_badT2, bt_0, bt_1, bit1_u, Bool.true_eq_false, Bool.false_eq_true, eq_self, Int32.or_zero, if_pos, if_neg, e, b3]
    · refine twin_v h' (v := nI (P 4)) (by unfold fn_X11_told; simp (disch := omega) only [Option.bind_some, Option.map_some, zlet_eq, ↓reduceIte, L_2, L_3, L_4, L_5, L_6, L_7, L_8, L_9, L_10, L_12, L_13, L_20, L_24, L_25, L_26, L_27, L_30, L_32, L_33, L_34, L_40, L_48, L_57, L_58, L_60, L_64, L_90, L_93, L_97, L_99, L_100, L_122, L_144, L_255, L_364, L_480, L_500, L_800, L_1000, L_100000, L_4096, L_1023, L_1024, nLe, nLt, nEq, nI_1, nI_add, pk_mul, nSn, nDn, nCl, zck_nI, zdv_nI, nNeg, nLe0, n0Lt, nEq0, nM1, m1N, m1Lt, nLm1, zcb_0, zcb_1, i10, i01, nEq1, n1Eq, nLt1, gI_eq, gI_nb, gI_na, x_badF, x_badT1, x_badT2, bt_0, bt_1, bit1_u, Bool.true_eq_false, Bool.false_eq_true, eq_self, Int32.or_zero, if_pos, if_neg, c1]) fun E hE he => ?_
      unfold fn_X12_told fn_X12_told_20
      rw [gE he] at c2
      simp (disch := omega) only [Option.bind_some, Option.map_some, zlet_eq, ↓reduceIte, L_2, L_3, L_4, L_5, L_6, L_7, L_8, L_9, L_10, L_12, L_13, L_20, L_24, L_25, L_26, L_27, L_30, L_32, L_33, L_34, L_40, L_48, L_57, L_58, L_60, L_64, L_90, L_93, L_97, L_99, L_100, L_122, L_144, L_255, L_364, L_480, L_500, L_800, L_1000, L_100000, L_4096, L_1023, L_1024, nLe, nLt, nEq, nI_1, nI_add, pk_mul, nSn, nDn, nCl, zck_nI, zdv_nI, nNeg, nLe0, n0Lt, nEq0, nM1, m1N, m1Lt, nLm1, zcb_0, zcb_1, i10, i01, nEq1, n1Eq, nLt1, gI_eq, gI_nb, gI_na, x_badF, x_badT1, x_badT2, bt_0, bt_1, bit1_u, Bool.true_eq_false, Bool.false_eq_true, eq_self, Int32.or_zero, if_pos, if_neg, e, c2]
    · refine twin_v h' (v := nI (P 5)) (by unfold fn_X11_told; simp (disch := omega) only [Option.bind_some, Option.map_some, zlet_eq, ↓reduceIte, L_2, L_3, L_4, L_5, L_6, L_7, L_8, L_9, L_10, L_12, L_13, L_20, L_24, L_25, L_26, L_27, L_30, L_32, L_33, L_34, L_40, L_48, L_57, L_58, L_60, L_64, L_90, L_93, L_97, L_99, L_100, L_122, L_144, L_255, L_364, L_480, L_500, L_800, L_1000, L_100000, L_4096, L_1023, L_1024, nLe, nLt, nEq, nI_1, nI_add, pk_mul, nSn, nDn, nCl, zck_nI, zdv_nI, nNeg, nLe0, n0Lt, nEq0, nM1, m1N, m1Lt, nLm1, zcb_0, zcb_1, i10, i01, nEq1, n1Eq, nLt1, gI_eq, gI_nb, gI_na, x_badF, x_badT1, x_badT2, bt_0, bt_1, bit1_u, Bool.true_eq_false, Bool.false_eq_true, eq_self, Int32.or_zero, if_pos, if_neg, z0]) fun E hE he => ?_
      unfold fn_X12_told fn_X12_told_20
      rw [gE he] at y0
      simp (disch := omega) only [Option.bind_some, Option.map_some, zlet_eq, ↓reduceIte, L_2, L_3, L_4, L_5, L_6, L_7, L_8, L_9, L_10, L_12, L_13, L_20, L_24, L_25, L_26, L_27, L_30, L_32, L_33, L_34, L_40, L_48, L_57, L_58, L_60, L_64, L_90, L_93, L_97, L_99, L_100, L_122, L_144, L_255, L_364, L_480, L_500, L_800, L_1000, L_100000, L_4096, L_1023, L_1024, nLe, nLt, nEq, nI_1, nI_add, pk_mul, nSn, nDn, nCl, zck_nI, zdv_nI, nNeg, nLe0, n0Lt, nEq0, nM1, m1N, m1Lt, nLm1, zcb_0, zcb_1, i10, i01, nEq1, n1Eq, nLt1, gI_eq, gI_nb, gI_na, x_badF, x_badT1, x_badT2, bt_0, bt_1, bit1_u, Bool.true_eq_false, Bool.false_eq_true, eq_self, Int32.or_zero, if_pos, if_neg, e, y0]
theorem c_needSign {D : zD} {n : Nat} (h : gI D 3 2 = nI n) {v : Int32} (g : v < 0 ∨ nI n ≤ v) : fn_X11_needSign v D = some 3 := by
  unfold fn_X11_needSign
  rw [h, y_out g]
theorem c_needSignJ {D : zD} {n : Nat} (h : gI D 3 2 = nI n) {j : Nat} (g : j < n) (hn : n ≤ 500) : fn_X11_needSign (nI j) D = some 0 := by
  unfold fn_X11_needSign
  rw [h, if_neg (nI_pos (by omega)), if_pos (nI_lt g (by omega))]
theorem c_needCover {D : zD} {n : Nat} (h : gI D 20 1 = nI n) {v : Int32} (g : v < 0 ∨ nI n ≤ v) : fn_X11_needCover v D = some 2 := by
  unfold fn_X11_needCover
  rw [h, y_out g]
theorem c_needCoverJ {D : zD} {n : Nat} (h : gI D 20 1 = nI n) {j : Nat} (g : j < n) (hn : n ≤ 500) : fn_X11_needCover (nI j) D = some 0 := by
  unfold fn_X11_needCover
  rw [h, if_neg (nI_pos (by omega)), if_pos (nI_lt g (by omega))]
theorem c_needWhat {v : Int32} {n : Nat} (hn : n < 1000) (g : v < 0 ∨ nI (n + 1) ≤ v) : fn_X11_needWhat v (nI n) = some 1 := by
  unfold fn_X11_needWhat
  rw [y_outK g (by omega)]
theorem c_needWhatJ {j n : Nat} (hn : n < 1000) (g : j < n + 1) : fn_X11_needWhat (nI j) (nI n) = some 0 := by
  unfold fn_X11_needWhat
  rw [if_neg (nI_pos (by omega)), if_pos (nI_le (by omega) (by omega))]
theorem t_sign {D : zD} {P : Nat → Nat} (h : iv P D) (v : Int32) : twin (wk1 3) (wP D (fn_X11_sign v D)) (fn_X12_sign v) := by
  have h' := h
  obtain ⟨⟨⟨hb, ⟨a0, a1, a2, a3⟩, ⟨b0, b1, b2, b3⟩, hs, hw⟩, ⟨hc, c1, c2, hcv⟩, ⟨hd, ⟨z0, z1, z2⟩, ⟨y0, y1, y2⟩, hp, ht⟩, ⟨hi, i0, i1, him⟩, ⟨hta, ta0, ta1, hpl, htb⟩⟩, hK, hO⟩ := h
  replace y0 : gI _ 102 34 = nI (P 5) := y0
  replace y1 : gI _ 102 35 = nI (P 6) := y1
  replace y2 : gI _ 102 36 = nI (P 7) := y2
  unfold fn_X11_sign
  rcases x_inN (v := v) (n := P 2) (by omega) with ⟨e, g⟩ | ⟨e, j, hj, rfl⟩
  · refine twin_t h' (e := 3) (t := 1) rfl (by decide) (by rw [c_needSign a2 g]; rfl) fun E hE he => ?_
    rw [gE he] at b2
    unfold fn_X12_sign fn_X12_sign_19 fn_X12_isSign
    simp (disch := omega) only [Option.bind_some, Option.map_some, zlet_eq, ↓reduceIte, L_2, L_3, L_4, L_5, L_6, L_7, L_8, L_9, L_10, L_12, L_13, L_20, L_24, L_25, L_26, L_27, L_30, L_32, L_33, L_34, L_40, L_48, L_57, L_58, L_60, L_64, L_90, L_93, L_97, L_99, L_100, L_122, L_144, L_255, L_364, L_480, L_500, L_800, L_1000, L_100000, L_4096, L_1023, L_1024, nLe, nLt, nEq, nI_1, nI_add, pk_mul, nSn, nDn, nCl, zck_nI, zdv_nI, nNeg, nLe0, n0Lt, nEq0, nM1, m1N, m1Lt, nLm1, zcb_0, zcb_1, i10, i01, nEq1, n1Eq, nLt1, gI_eq, gI_nb, gI_na, x_badF, x_badT1, x_badT2, bt_0, bt_1, bit1_u, Bool.true_eq_false, Bool.false_eq_true, eq_self, Int32.or_zero, if_pos, if_neg, b2, e]
  · refine twin_v h' (v := gI D 4 j) (by rw [c_needSignJ a2 hj (by omega)]; simp (disch := omega) only [Option.bind_some, Option.map_some, zlet_eq, ↓reduceIte, L_2, L_3, L_4, L_5, L_6, L_7, L_8, L_9, L_10, L_12, L_13, L_20, L_24, L_25, L_26, L_27, L_30, L_32, L_33, L_34, L_40, L_48, L_57, L_58, L_60, L_64, L_90, L_93, L_97, L_99, L_100, L_122, L_144, L_255, L_364, L_480, L_500, L_800, L_1000, L_100000, L_4096, L_1023, L_1024, nLe, nLt, nEq, nI_1, nI_add, pk_mul, nSn, nDn, nCl, zck_nI, zdv_nI, nNeg, nLe0, n0Lt, nEq0, nM1, m1N, m1Lt, nLm1, zcb_0, zcb_1, i10, i01, nEq1, n1Eq, nLt1, gI_eq, gI_nb, gI_na, x_badF, x_badT1, x_badT2, bt_0, bt_1, bit1_u, Bool.true_eq_false, Bool.false_eq_true, eq_self, Int32.or_zero, if_pos, if_neg, v_paint a2 hj]) fun E hE he => ?_
    rw [gE he] at b2
    rw [(hs j hj).1, gE he]
    unfold fn_X12_sign fn_X12_sign_19 fn_X12_isSign
    simp (disch := omega) only [Option.bind_some, Option.map_some, zlet_eq, ↓reduceIte, L_2, L_3, L_4, L_5, L_6, L_7, L_8, L_9, L_10, L_12, L_13, L_20, L_24, L_25, L_26, L_27, L_30, L_32, L_33, L_34, L_40, L_48, L_57, L_58, L_60, L_64, L_90, L_93, L_97, L_99, L_100, L_122, L_144, L_255, L_364, L_480, L_500, L_800, L_1000, L_100000, L_4096, L_1023, L_1024, nLe, nLt, nEq, nI_1, nI_add, pk_mul, nSn, nDn, nCl, zck_nI, zdv_nI, nNeg, nLe0, n0Lt, nEq0, nM1, m1N, m1Lt, nLm1, zcb_0, zcb_1, i10, i01, nEq1, n1Eq, nLt1, gI_eq, gI_nb, gI_na, x_badF, x_badT1, x_badT2, bt_0, bt_1, bit1_u, Bool.true_eq_false, Bool.false_eq_true, eq_self, Int32.or_zero, if_pos, if_neg, b2, e]
theorem t_family {D : zD} {P : Nat → Nat} (h : iv P D) (v : Int32) : twin (wk1 3) (wP D (fn_X11_family v D)) (fn_X12_family v) := by
  have h' := h
  obtain ⟨⟨⟨hb, ⟨a0, a1, a2, a3⟩, ⟨b0, b1, b2, b3⟩, hs, hw⟩, ⟨hc, c1, c2, hcv⟩, ⟨hd, ⟨z0, z1, z2⟩, ⟨y0, y1, y2⟩, hp, ht⟩, ⟨hi, i0, i1, him⟩, ⟨hta, ta0, ta1, hpl, htb⟩⟩, hK, hO⟩ := h
  replace y0 : gI _ 102 34 = nI (P 5) := y0
  replace y1 : gI _ 102 35 = nI (P 6) := y1
  replace y2 : gI _ 102 36 = nI (P 7) := y2
  unfold fn_X11_family
  rcases x_inN (v := v) (n := P 2) (by omega) with ⟨e, g⟩ | ⟨e, j, hj, rfl⟩
  · refine twin_t h' (e := 3) (t := 1) rfl (by decide) (by rw [c_needSign a2 g]; rfl) fun E hE he => ?_
    rw [gE he] at b2
    unfold fn_X12_family fn_X12_family_19 fn_X12_isSign
    simp (disch := omega) only [Option.bind_some, Option.map_some, zlet_eq, ↓reduceIte, L_2, L_3, L_4, L_5, L_6, L_7, L_8, L_9, L_10, L_12, L_13, L_20, L_24, L_25, L_26, L_27, L_30, L_32, L_33, L_34, L_40, L_48, L_57, L_58, L_60, L_64, L_90, L_93, L_97, L_99, L_100, L_122, L_144, L_255, L_364, L_480, L_500, L_800, L_1000, L_100000, L_4096, L_1023, L_1024, nLe, nLt, nEq, nI_1, nI_add, pk_mul, nSn, nDn, nCl, zck_nI, zdv_nI, nNeg, nLe0, n0Lt, nEq0, nM1, m1N, m1Lt, nLm1, zcb_0, zcb_1, i10, i01, nEq1, n1Eq, nLt1, gI_eq, gI_nb, gI_na, x_badF, x_badT1, x_badT2, bt_0, bt_1, bit1_u, Bool.true_eq_false, Bool.false_eq_true, eq_self, Int32.or_zero, if_pos, if_neg, b2, e]
  · refine twin_v h' (v := gI D 5 j) (by rw [c_needSignJ a2 hj (by omega)]; simp (disch := omega) only [Option.bind_some, Option.map_some, zlet_eq, ↓reduceIte, L_2, L_3, L_4, L_5, L_6, L_7, L_8, L_9, L_10, L_12, L_13, L_20, L_24, L_25, L_26, L_27, L_30, L_32, L_33, L_34, L_40, L_48, L_57, L_58, L_60, L_64, L_90, L_93, L_97, L_99, L_100, L_122, L_144, L_255, L_364, L_480, L_500, L_800, L_1000, L_100000, L_4096, L_1023, L_1024, nLe, nLt, nEq, nI_1, nI_add, pk_mul, nSn, nDn, nCl, zck_nI, zdv_nI, nNeg, nLe0, n0Lt, nEq0, nM1, m1N, m1Lt, nLm1, zcb_0, zcb_1, i10, i01, nEq1, n1Eq, nLt1, gI_eq, gI_nb, gI_na, x_badF, x_badT1, x_badT2, bt_0, bt_1, bit1_u, Bool.true_eq_false, Bool.false_eq_true, eq_self, Int32.or_zero, if_pos, if_neg, v_fam a2 hj]) fun E hE he => ?_
    rw [gE he] at b2
    rw [(hs j hj).2.1, gE he]
    unfold fn_X12_family fn_X12_family_19 fn_X12_isSign
    simp (disch := omega) only [Option.bind_some, Option.map_some, zlet_eq, ↓reduceIte, L_2, L_3, L_4, L_5, L_6, L_7, L_8, L_9, L_10, L_12, L_13, L_20, L_24, L_25, L_26, L_27, L_30, L_32, L_33, L_34, L_40, L_48, L_57, L_58, L_60, L_64, L_90, L_93, L_97, L_99, L_100, L_122, L_144, L_255, L_364, L_480, L_500, L_800, L_1000, L_100000, L_4096, L_1023, L_1024, nLe, nLt, nEq, nI_1, nI_add, pk_mul, nSn, nDn, nCl, zck_nI, zdv_nI, nNeg, nLe0, n0Lt, nEq0, nM1, m1N, m1Lt, nLm1, zcb_0, zcb_1, i10, i01, nEq1, n1Eq, nLt1, gI_eq, gI_nb, gI_na, x_badF, x_badT1, x_badT2, bt_0, bt_1, bit1_u, Bool.true_eq_false, Bool.false_eq_true, eq_self, Int32.or_zero, if_pos, if_neg, b2, e]
theorem t_cover {D : zD} {P : Nat → Nat} (h : iv P D) (v : Int32) : twin (wk1 2) (wP D (fn_X11_cover v D)) (fn_X12_cover v) := by
  have h' := h
  obtain ⟨⟨⟨hb, ⟨a0, a1, a2, a3⟩, ⟨b0, b1, b2, b3⟩, hs, hw⟩, ⟨hc, c1, c2, hcv⟩, ⟨hd, ⟨z0, z1, z2⟩, ⟨y0, y1, y2⟩, hp, ht⟩, ⟨hi, i0, i1, him⟩, ⟨hta, ta0, ta1, hpl, htb⟩⟩, hK, hO⟩ := h
  replace y0 : gI _ 102 34 = nI (P 5) := y0
  replace y1 : gI _ 102 35 = nI (P 6) := y1
  replace y2 : gI _ 102 36 = nI (P 7) := y2
  unfold fn_X11_cover
  rcases x_inN (v := v) (n := P 4) (by omega) with ⟨e, g⟩ | ⟨e, j, hj, rfl⟩
  · refine twin_t h' (e := 2) (t := 1) rfl (by decide) (by rw [c_needCover c1 g]; rfl) fun E hE he => ?_
    rw [gE he] at c2
    unfold fn_X12_cover fn_X12_cover_19 fn_X12_isCover
    simp (disch := omega) only [Option.bind_some, Option.map_some, zlet_eq, ↓reduceIte, L_2, L_3, L_4, L_5, L_6, L_7, L_8, L_9, L_10, L_12, L_13, L_20, L_24, L_25, L_26, L_27, L_30, L_32, L_33, L_34, L_40, L_48, L_57, L_58, L_60, L_64, L_90, L_93, L_97, L_99, L_100, L_122, L_144, L_255, L_364, L_480, L_500, L_800, L_1000, L_100000, L_4096, L_1023, L_1024, nLe, nLt, nEq, nI_1, nI_add, pk_mul, nSn, nDn, nCl, zck_nI, zdv_nI, nNeg, nLe0, n0Lt, nEq0, nM1, m1N, m1Lt, nLm1, zcb_0, zcb_1, i10, i01, nEq1, n1Eq, nLt1, gI_eq, gI_nb, gI_na, x_badF, x_badT1, x_badT2, bt_0, bt_1, bit1_u, Bool.true_eq_false, Bool.false_eq_true, eq_self, Int32.or_zero, if_pos, if_neg, c2, e]
  · refine twin_v h' (v := gI D 21 j) (by rw [c_needCoverJ c1 hj (by omega)]; simp (disch := omega) only [Option.bind_some, Option.map_some, zlet_eq, ↓reduceIte, L_2, L_3, L_4, L_5, L_6, L_7, L_8, L_9, L_10, L_12, L_13, L_20, L_24, L_25, L_26, L_27, L_30, L_32, L_33, L_34, L_40, L_48, L_57, L_58, L_60, L_64, L_90, L_93, L_97, L_99, L_100, L_122, L_144, L_255, L_364, L_480, L_500, L_800, L_1000, L_100000, L_4096, L_1023, L_1024, nLe, nLt, nEq, nI_1, nI_add, pk_mul, nSn, nDn, nCl, zck_nI, zdv_nI, nNeg, nLe0, n0Lt, nEq0, nM1, m1N, m1Lt, nLm1, zcb_0, zcb_1, i10, i01, nEq1, n1Eq, nLt1, gI_eq, gI_nb, gI_na, x_badF, x_badT1, x_badT2, bt_0, bt_1, bit1_u, Bool.true_eq_false, Bool.false_eq_true, eq_self, Int32.or_zero, if_pos, if_neg, v_at c1 hj]) fun E hE he => ?_
    rw [gE he] at c2
    rw [(hcv j hj).1, gE he]
    unfold fn_X12_cover fn_X12_cover_19 fn_X12_isCover
    simp (disch := omega) only [Option.bind_some, Option.map_some, zlet_eq, ↓reduceIte, L_2, L_3, L_4, L_5, L_6, L_7, L_8, L_9, L_10, L_12, L_13, L_20, L_24, L_25, L_26, L_27, L_30, L_32, L_33, L_34, L_40, L_48, L_57, L_58, L_60, L_64, L_90, L_93, L_97, L_99, L_100, L_122, L_144, L_255, L_364, L_480, L_500, L_800, L_1000, L_100000, L_4096, L_1023, L_1024, nLe, nLt, nEq, nI_1, nI_add, pk_mul, nSn, nDn, nCl, zck_nI, zdv_nI, nNeg, nLe0, n0Lt, nEq0, nM1, m1N, m1Lt, nLm1, zcb_0, zcb_1, i10, i01, nEq1, n1Eq, nLt1, gI_eq, gI_nb, gI_na, x_badF, x_badT1, x_badT2, bt_0, bt_1, bit1_u, Bool.true_eq_false, Bool.false_eq_true, eq_self, Int32.or_zero, if_pos, if_neg, c2, e]
theorem t_word {D : zD} {P : Nat → Nat} (h : iv P D) (v u : Int32) : twin (wk2 2 1) (wP D (fn_X11_word v u D)) (fn_X12_word v u) := by
  have h' := h
  obtain ⟨⟨⟨hb, ⟨a0, a1, a2, a3⟩, ⟨b0, b1, b2, b3⟩, hs, hw⟩, ⟨hc, c1, c2, hcv⟩, ⟨hd, ⟨z0, z1, z2⟩, ⟨y0, y1, y2⟩, hp, ht⟩, ⟨hi, i0, i1, him⟩, ⟨hta, ta0, ta1, hpl, htb⟩⟩, hK, hO⟩ := h
  replace y0 : gI _ 102 34 = nI (P 5) := y0
  replace y1 : gI _ 102 35 = nI (P 6) := y1
  replace y2 : gI _ 102 36 = nI (P 7) := y2
  unfold fn_X11_word
  rw [a3]
  rcases x_inN (v := v) (n := P 3) (by omega) with ⟨e, g⟩ | ⟨e, j, hj, rfl⟩
  · refine twin_t h' (e := 2) (t := 1) rfl (by decide) (by rw [y_out g]) fun E hE he => ?_
    rw [gE he] at b3
    unfold fn_X12_word fn_X12_word_25
    simp (disch := omega) only [Option.bind_some, Option.map_some, zlet_eq, ↓reduceIte, L_2, L_3, L_4, L_5, L_6, L_7, L_8, L_9, L_10, L_12, L_13, L_20, L_24, L_25, L_26, L_27, L_30, L_32, L_33, L_34, L_40, L_48, L_57, L_58, L_60, L_64, L_90, L_93, L_97, L_99, L_100, L_122, L_144, L_255, L_364, L_480, L_500, L_800, L_1000, L_100000, L_4096, L_1023, L_1024, nLe, nLt, nEq, nI_1, nI_add, pk_mul, nSn, nDn, nCl, zck_nI, zdv_nI, nNeg, nLe0, n0Lt, nEq0, nM1, m1N, m1Lt, nLm1, zcb_0, zcb_1, i10, i01, nEq1, n1Eq, nLt1, gI_eq, gI_nb, gI_na, x_badF, x_badT1, x_badT2, bt_0, bt_1, bit1_u, Bool.true_eq_false, Bool.false_eq_true, eq_self, Int32.or_zero, if_pos, if_neg, b3, e]
  · rcases x_inK (v := u) (n := 5) (by omega) with ⟨e2, g⟩ | ⟨e2, i, hi6, rfl⟩
    · refine twin_t h' (e := 1) (t := 2) rfl (by decide) ?_ fun E hE he => ?_
      · rw [if_neg (nI_pos (by omega)), if_pos (nI_lt hj (by omega))]
        have := y_out (n := 6) g (some (.inl 1 : Nat ⊕ Int32)) ((fn_X0_letterOf 3 (nI j) u D).bind fun x5 => (some (.inr x5)))
        exact this
      · rw [gE he] at b3
        unfold fn_X12_word fn_X12_word_25 fn_X12_word_47
        simp (disch := omega) only [Option.bind_some, Option.map_some, zlet_eq, ↓reduceIte, L_2, L_3, L_4, L_5, L_6, L_7, L_8, L_9, L_10, L_12, L_13, L_20, L_24, L_25, L_26, L_27, L_30, L_32, L_33, L_34, L_40, L_48, L_57, L_58, L_60, L_64, L_90, L_93, L_97, L_99, L_100, L_122, L_144, L_255, L_364, L_480, L_500, L_800, L_1000, L_100000, L_4096, L_1023, L_1024, nLe, nLt, nEq, nI_1, nI_add, pk_mul, nSn, nDn, nCl, zck_nI, zdv_nI, nNeg, nLe0, n0Lt, nEq0, nM1, m1N, m1Lt, nLm1, zcb_0, zcb_1, i10, i01, nEq1, n1Eq, nLt1, gI_eq, gI_nb, gI_na, x_badF, x_badT1, x_badT2, bt_0, bt_1, bit1_u, Bool.true_eq_false, Bool.false_eq_true, eq_self, Int32.or_zero, if_pos, if_neg, b3, e, e2]
    · obtain ⟨l, l1, l6, w1, w2, w3⟩ := hw j hj
      by_cases hil : i < l
      · obtain ⟨s, hs2, w4, w5⟩ := w3 i hil
        refine twin_v h' (v := nI s) ?_ fun E hE he => ?_
        · simp (disch := omega) only [Option.bind_some, Option.map_some, zlet_eq, ↓reduceIte, L_2, L_3, L_4, L_5, L_6, L_7, L_8, L_9, L_10, L_12, L_13, L_20, L_24, L_25, L_26, L_27, L_30, L_32, L_33, L_34, L_40, L_48, L_57, L_58, L_60, L_64, L_90, L_93, L_97, L_99, L_100, L_122, L_144, L_255, L_364, L_480, L_500, L_800, L_1000, L_100000, L_4096, L_1023, L_1024, nLe, nLt, nEq, nI_1, nI_add, pk_mul, nSn, nDn, nCl, zck_nI, zdv_nI, nNeg, nLe0, n0Lt, nEq0, nM1, m1N, m1Lt, nLm1, zcb_0, zcb_1, i10, i01, nEq1, n1Eq, nLt1, gI_eq, gI_nb, gI_na, x_badF, x_badT1, x_badT2, bt_0, bt_1, bit1_u, Bool.true_eq_false, Bool.false_eq_true, eq_self, Int32.or_zero, if_pos, if_neg, v_let a3 hj (by omega) w1 hil l6, w4]
        · rw [gE he] at b3 w2 w5
          unfold fn_X12_word fn_X12_word_25 fn_X12_word_47
          simp (disch := omega) only [Option.bind_some, Option.map_some, zlet_eq, ↓reduceIte, L_2, L_3, L_4, L_5, L_6, L_7, L_8, L_9, L_10, L_12, L_13, L_20, L_24, L_25, L_26, L_27, L_30, L_32, L_33, L_34, L_40, L_48, L_57, L_58, L_60, L_64, L_90, L_93, L_97, L_99, L_100, L_122, L_144, L_255, L_364, L_480, L_500, L_800, L_1000, L_100000, L_4096, L_1023, L_1024, nLe, nLt, nEq, nI_1, nI_add, pk_mul, nSn, nDn, nCl, zck_nI, zdv_nI, nNeg, nLe0, n0Lt, nEq0, nM1, m1N, m1Lt, nLm1, zcb_0, zcb_1, i10, i01, nEq1, n1Eq, nLt1, gI_eq, gI_nb, gI_na, x_badF, x_badT1, x_badT2, bt_0, bt_1, bit1_u, Bool.true_eq_false, Bool.false_eq_true, eq_self, Int32.or_zero, if_pos, if_neg, b3, e, e2, w2, w5]
      · refine twin_v h' (v := -1) ?_ fun E hE he => ?_
        · simp (disch := omega) only [Option.bind_some, Option.map_some, zlet_eq, ↓reduceIte, L_2, L_3, L_4, L_5, L_6, L_7, L_8, L_9, L_10, L_12, L_13, L_20, L_24, L_25, L_26, L_27, L_30, L_32, L_33, L_34, L_40, L_48, L_57, L_58, L_60, L_64, L_90, L_93, L_97, L_99, L_100, L_122, L_144, L_255, L_364, L_480, L_500, L_800, L_1000, L_100000, L_4096, L_1023, L_1024, nLe, nLt, nEq, nI_1, nI_add, pk_mul, nSn, nDn, nCl, zck_nI, zdv_nI, nNeg, nLe0, n0Lt, nEq0, nM1, m1N, m1Lt, nLm1, zcb_0, zcb_1, i10, i01, nEq1, n1Eq, nLt1, gI_eq, gI_nb, gI_na, x_badF, x_badT1, x_badT2, bt_0, bt_1, bit1_u, Bool.true_eq_false, Bool.false_eq_true, eq_self, Int32.or_zero, if_pos, if_neg, v_let2 a3 hj (by omega) w1 (Nat.not_lt.mp hil) l6]
        · rw [gE he] at b3 w2
          unfold fn_X12_word fn_X12_word_25 fn_X12_word_47
          simp (disch := omega) only [Option.bind_some, Option.map_some, zlet_eq, ↓reduceIte, L_2, L_3, L_4, L_5, L_6, L_7, L_8, L_9, L_10, L_12, L_13, L_20, L_24, L_25, L_26, L_27, L_30, L_32, L_33, L_34, L_40, L_48, L_57, L_58, L_60, L_64, L_90, L_93, L_97, L_99, L_100, L_122, L_144, L_255, L_364, L_480, L_500, L_800, L_1000, L_100000, L_4096, L_1023, L_1024, nLe, nLt, nEq, nI_1, nI_add, pk_mul, nSn, nDn, nCl, zck_nI, zdv_nI, nNeg, nLe0, n0Lt, nEq0, nM1, m1N, m1Lt, nLm1, zcb_0, zcb_1, i10, i01, nEq1, n1Eq, nLt1, gI_eq, gI_nb, gI_na, x_badF, x_badT1, x_badT2, bt_0, bt_1, bit1_u, Bool.true_eq_false, Bool.false_eq_true, eq_self, Int32.or_zero, if_pos, if_neg, b3, e, e2, w2]
