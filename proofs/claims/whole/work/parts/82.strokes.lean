/-! THE MATHEMATICS: strokes: what both do, and the class -/
def hr (W : Nat) (bl : Nat → Bool) (i : Nat) : Nat := if h : 0 < i % W ∧ 0 < i ∧ bl (i - 1) = true then hr W bl (i - 1) else i
termination_by i
decreasing_by omega
def vr (W : Nat) (bl : Nat → Bool) (i : Nat) : Nat := if h : 0 < W ∧ W ≤ i ∧ bl (i - W) = true then vr W bl (i - W) else i
termination_by i
decreasing_by omega
abbrev kS := (Nat → Bool) × (Nat → Option Nat)
def kmk (s : kS) (j : Nat) : kS := (fun k => s.1 k || decide (k = j), s.2)
def kset (s : kS) (j r : Nat) : kS := (s.1, fun k => if k = j then some r else s.2 k)
def kl (f : Nat → kS → Bool × kS) (bl : Nat → Bool) (H V : Nat → Nat) (r : Nat) : Nat → Nat → kS → Bool × kS
  | 0, _, s => (false, s)
  | m + 1, i, s => if bl i = true ∧ H i = r ∧ s.1 (V i) = false then
      (match s.2 (V i) with
       | none => (true, kset (kmk s (V i)) (V i) r)
       | some q => if (f q (kmk s (V i))).1 = true then (true, kset (f q (kmk s (V i))).2 (V i) r) else kl f bl H V r m (i + 1) (f q (kmk s (V i))).2)
    else kl f bl H V r m (i + 1) s
def kf (bl : Nat → Bool) (H V : Nat → Nat) : Nat → Nat → kS → Bool × kS
  | 0, _, s => (false, s)
  | f + 1, r, s => kl (kf bl H V f) bl H V r 30 0 s
def kO (bl : Nat → Bool) (H V : Nat → Nat) : Nat → Nat × (Nat → Option Nat)
  | 0 => (0, fun _ => none)
  | i + 1 => if bl i = true ∧ H i = i then ((kO bl H V i).1 + (if (kf bl H V 31 i (fun _ => false, (kO bl H V i).2)).1 = true then 1 else 0), (kf bl H V 31 i (fun _ => false, (kO bl H V i).2)).2.2) else kO bl H V i
def pe (ρ : Nat → Nat) (o : Option Nat) : Int32 := match o with | none => -1 | some q => nI (ρ q)
section M82
variable {D : zD} {P : Nat → Nat} {nc c ns d W h : Nat} {bl : Nat → Bool} {H V ρ κ : Nat → Nat}
theorem hr_le : ∀ i, hr W bl i ≤ i := by
  intro i
  induction i using Nat.strongRecOn with
  | ind i ih =>
    rw [hr]
    split
    · next q => have := ih (i - 1) (by omega); omega
    · exact Nat.le_refl _
theorem hr_st : ∀ i, bl i = true → bl (hr W bl i) = true ∧ hr W bl (hr W bl i) = hr W bl i := by
  intro i
  induction i using Nat.strongRecOn with
  | ind i ih =>
    intro hi
    by_cases q : 0 < i % W ∧ 0 < i ∧ bl (i - 1) = true
    · rw [show hr W bl i = hr W bl (i - 1) from by rw [hr, dif_pos q]]
      exact ih (i - 1) (by omega) q.2.2
    · rw [show hr W bl i = i from by rw [hr, dif_neg q]]
      exact ⟨hi, by rw [hr, dif_neg q]⟩
theorem vr_le : ∀ i, vr W bl i ≤ i := by
  intro i
  induction i using Nat.strongRecOn with
  | ind i ih =>
    rw [vr]
    split
    · next q => have := ih (i - W) (by omega); omega
    · exact Nat.le_refl _
theorem vr_st : ∀ i, bl i = true → bl (vr W bl i) = true ∧ vr W bl (vr W bl i) = vr W bl i := by
  intro i
  induction i using Nat.strongRecOn with
  | ind i ih =>
    intro hi
    by_cases q : 0 < W ∧ W ≤ i ∧ bl (i - W) = true
    · rw [show vr W bl i = vr W bl (i - W) from by rw [vr, dif_pos q]]
      exact ih (i - W) (by omega) q.2.2
    · rw [show vr W bl i = i from by rw [vr, dif_neg q]]
      exact ⟨hi, by rw [vr, dif_neg q]⟩
/-- rows, columns and their names -/
def kN (bl : Nat → Bool) (H V ρ κ : Nat → Nat) : Prop :=
  (∀ i, i < 30 → bl i = true → H i < 30 ∧ V i < 30 ∧ ρ (H i) < 30 ∧ κ (V i) < 30) ∧
  (∀ i j, i < 30 → j < 30 → bl i = true → bl j = true → (ρ (H i) = ρ (H j) → H i = H j) ∧ (κ (V i) = κ (V j) → V i = V j))
/-- what partners are -/
def kP (bl : Nat → Bool) (H : Nat → Nat) (s : Nat → Option Nat) : Prop := ∀ j q, s j = some q → ∃ i, i < 30 ∧ bl i = true ∧ H i = q
/-- the class's arrays -/
def kC (bl : Nat → Bool) (H V ρ κ : Nat → Nat) (s : kS) (D : zD) : Prop :=
  (∀ i, i < 30 → bl i = true → gI D 8 i = nI (ρ (H i)) ∧ gI D 9 i = nI (κ (V i))) ∧
  (∀ i, i < 30 → bl i = true → bt (gI D 3 11) (κ (V i)) = s.1 (V i) ∧ gI D 10 (κ (V i)) = pe ρ (s.2 (V i))) ∧ kP bl H s.2
theorem kC.mk {s : kS} (hN : kN bl H V ρ κ) (hk : kC bl H V ρ κ s D) {i : Nat} (hi : i < 30) (hb : bl i = true) : kC bl H V ρ κ (kmk s (V i)) (sI D 3 11 (gI D 3 11 ||| bit1 (κ (V i)))) := by
  obtain ⟨h1, h2, h3⟩ := hk
  refine ⟨fun j hj hbj => by rw [gI_na (by omega), gI_na (by omega)]; exact h1 j hj hbj, fun j hj hbj => ⟨?_, by rw [gI_na (by omega)]; exact (h2 j hj hbj).2⟩, h3⟩
  have n1 := (hN.1 i hi hb).2.2.2
  have n2 := (hN.1 j hj hbj).2.2.2
  rw [gI_eq, b_or, (h2 j hj hbj).1, bt_bit1 _ (by omega) _ (by omega)]
  show (s.1 (V j) || decide (κ (V j) = κ (V i))) = (s.1 (V j) || decide (V j = V i))
  congr 1
  rw [decide_eq_decide]
  exact ⟨fun e => (hN.2 j i hj hi hbj hb).2 e, fun e => by rw [e]⟩
theorem kC.set {s : kS} (hN : kN bl H V ρ κ) (hk : kC bl H V ρ κ s D) {i r : Nat} (hi : i < 30) (hb : bl i = true) (hr : ∃ k, k < 30 ∧ bl k = true ∧ H k = r) : kC bl H V ρ κ (kset s (V i) r) (sI D 10 (κ (V i)) (nI (ρ r))) := by
  obtain ⟨h1, h2, h3⟩ := hk
  refine ⟨fun j hj hbj => by rw [gI_na (by omega), gI_na (by omega)]; exact h1 j hj hbj, fun j hj hbj => ⟨by rw [gI_na (by omega)]; exact (h2 j hj hbj).1, ?_⟩, fun j q hq => ?_⟩
  · rw [gI_if]
    show _ = pe ρ (if V j = V i then some r else s.2 (V j))
    by_cases e : V j = V i
    · rw [if_pos (by rw [e]), if_pos e]; rfl
    · rw [if_neg (fun q => e ((hN.2 j i hj hi hbj hb).2 q)), if_neg e]; exact (h2 j hj hbj).2
  · replace hq : (if j = V i then some r else s.2 j) = some q := hq
    by_cases e : j = V i
    · rw [if_pos e] at hq; cases hq; exact hr
    · rw [if_neg e] at hq; exact h3 j q hq
def pSt (a b : Nat) : Prop := ¬ (a = 3 ∧ b = 11) ∧ a ≠ 8 ∧ a ≠ 9 ∧ a ≠ 10
theorem c_finds {p : Int32} (hp : ∀ i, i < 30 → bt p i = bl i) (hN : kN bl H V ρ κ) : ∀ (f g dep r : Nat) (s : kS) (D : zD), f < g → f + dep = 31 → (∃ k, k < 30 ∧ bl k = true ∧ H k = r) → kC bl H V ρ κ s D → zok (fn_X0_findsPartnerR g 3 p (nI (ρ r)) (nI dep) D) fun q => q.1 = bI (kf bl H V f r s).1 ∧ kC bl H V ρ κ (kf bl H V f r s).2 q.2 ∧ ag pSt D q.2
  | f, 0, _, _, _, _ => fun h => absurd h (Nat.not_lt_zero _)
  | 0, g + 1, dep, r, s, D => fun _ hd _ hk => by
    show zok (fn_X0_findsPartner (fn_X0_findsPartnerR g) 3 p (nI (ρ r)) (nI dep) D) _
    unfold fn_X0_findsPartner
    rw [if_neg (show ¬ nI dep ≤ (30 : Int32) from nI_ge (a := 30) (by omega) (by omega)), zok_some]
    exact ⟨rfl, hk, ag.refl⟩
  | f + 1, g + 1, dep, r, s, D => fun hfg hd hr hk => by
    show zok (fn_X0_findsPartner (fn_X0_findsPartnerR g) 3 p (nI (ρ r)) (nI dep) D) _
    unfold fn_X0_findsPartner
    rw [if_pos (show nI dep ≤ (30 : Int32) from nI_le (b := 30) (by omega) (by omega))]
    have hr2 := hr
    obtain ⟨kr, kr1, kr2, kr3⟩ := hr2
    have main : ∀ m i s D n, i + m = 30 → m < n → kC bl H V ρ κ s D → zok (fn_X0_findsPartner_11 (fn_X0_findsPartnerR g) 3 p (nI (ρ r)) (nI dep) n (nI i) D) fun q => q.1 = bI (kl (kf bl H V f) bl H V r m i s).1 ∧ kC bl H V ρ κ (kl (kf bl H V f) bl H V r m i s).2 q.2 ∧ ag pSt D q.2 := by
      intro m
      induction m with
      | zero =>
        intro i s D n hi hn hk
        obtain ⟨n, rfl⟩ : ∃ k, n = k + 1 := ⟨n - 1, by omega⟩
        rw [fn_X0_findsPartner_11, if_pos (show (30 : Int32) ≤ nI i from nI_le (a := 30) (by omega) (by omega)), zok_some]
        exact ⟨rfl, hk, ag.refl⟩
      | succ m ih =>
        intro i s D n hi hn hk
        obtain ⟨n, rfl⟩ : ∃ k, n = k + 1 := ⟨n - 1, by omega⟩
        have hi30 : i < 30 := by omega
        have j0 := bt_0 p i (by omega)
        rw [hp i hi30] at j0
        rw [fn_X0_findsPartner_11, if_neg (show ¬ (30 : Int32) ≤ nI i from nI_ge (b := 30) (by omega) (by omega)), nI_1, zck_nI hi30 (by omega), zck_nI hi30 (by omega), nI_clamp (by omega)]
        by_cases q1 : bl i = true
        · rw [if_neg (fun e => by rw [j0.mp e] at q1; cases q1)]
          have nI' := hN.1 i hi30 q1
          obtain ⟨g1, g2⟩ := hk.1 i hi30 q1
          obtain ⟨g3, g4⟩ := hk.2.1 i hi30 q1
          have nr := hN.1 kr kr1 kr2
          rw [kr3] at nr
          have j1 := nEq (ρ (H i)) (ρ r) (by omega) (by omega)
          rw [show gI D (3 + 5) i = nI (ρ (H i)) from g1]
          by_cases q2 : H i = r
          · rw [if_pos (j1.mpr (by rw [q2])), show gI D (3 + 6) i = nI (κ (V i)) from g2, zlet_eq, if_neg (nI_pos (by omega)), if_neg (show ¬ (30 : Int32) ≤ nI (κ (V i)) from nI_ge (b := 30) (by omega) (by omega)), zlet_eq, bit1_u, zck_nI (by omega) (by omega), zck_nI (by omega) (by omega), nI_clamp (by omega)]
            have j2 := bt_0 (gI D 3 11) (κ (V i)) (by omega)
            rw [g3] at j2
            by_cases q3 : s.1 (V i) = false
            · rw [if_pos (j2.mpr q3)]
              have hk1 := hk.mk hN hi30 q1
              have a1 : ag pSt D (sI D 3 11 (gI D 3 11 ||| bit1 (κ (V i)))) := ag.refl.sI (by unfold pSt; omega)
              have g5 : gI (sI D 3 11 (gI D 3 11 ||| bit1 (κ (V i)))) (3 + 7) (κ (V i)) = pe ρ (s.2 (V i)) := by rw [gI_na (by omega)]; exact g4
              rw [g5]
              have done : ∀ s2 E, kC bl H V ρ κ s2 E → ag pSt D E → zok (fn_X0_findsPartner_119 (fn_X0_findsPartnerR g) 3 p (nI (ρ r)) (nI dep) (nI (κ (V i))) E) fun q => q.1 = bI true ∧ kC bl H V ρ κ (kset s2 (V i) r) q.2 ∧ ag pSt D q.2 := by
                intro s2 E hs2 hE
                unfold fn_X0_findsPartner_119
                rw [zck_nI (by omega) (by omega), nI_clamp (by omega), zlet_eq, zok_some]
                exact ⟨rfl, hs2.set hN hi30 q1 hr, hE.sI (by unfold pSt; omega)⟩
              rw [kl, if_pos (show bl i = true ∧ H i = r ∧ s.1 (V i) = false from ⟨q1, q2, q3⟩)]
              cases q4 : s.2 (V i) with
              | none =>
                rw [show pe ρ none = -1 from rfl, if_pos rfl]
                exact done _ _ hk1 a1
              | some q =>
                obtain ⟨kq, kq1, kq2, kq3⟩ := hk.2.2 _ _ q4
                have nq := hN.1 kq kq1 kq2
                rw [kq3] at nq
                rw [show pe ρ (some q) = nI (ρ q) from rfl, if_neg (fun e => (nM1 _ (by omega)).mp e), nI_1]
                refine (c_finds hp hN f g (dep + 1) q (kmk s (V i)) _ (by omega) (by omega) ⟨kq, kq1, kq2, kq3⟩ hk1).bind fun x ⟨x1, x2, x3⟩ => ?_
                show zok _ fun (q' : Int32 × zD) => q'.1 = bI (if (kf bl H V f q (kmk s (V i))).1 = true then (true, kset (kf bl H V f q (kmk s (V i))).2 (V i) r) else kl (kf bl H V f) bl H V r m (i + 1) (kf bl H V f q (kmk s (V i))).2).1 ∧ kC bl H V ρ κ (if (kf bl H V f q (kmk s (V i))).1 = true then (true, kset (kf bl H V f q (kmk s (V i))).2 (V i) r) else kl (kf bl H V f) bl H V r m (i + 1) (kf bl H V f q (kmk s (V i))).2).2 q'.2 ∧ ag pSt D q'.2
                rw [x1]
                cases q5 : (kf bl H V f q (kmk s (V i))).1
                · rw [if_pos (show bI false = 0 from rfl), if_neg (by decide)]
                  exact (ih (i + 1) _ _ n (by omega) (by omega) x2).mono fun y ⟨y1, y2, y3⟩ => ⟨y1, y2, (a1.trans x3).trans y3⟩
                · rw [if_neg (show ¬ bI true = 0 by decide), if_pos rfl]
                  exact done _ _ x2 (a1.trans x3)
            · rw [if_neg (fun e => q3 (j2.mp e)), kl, if_neg (fun e => q3 e.2.2)]
              exact ih (i + 1) s D n (by omega) (by omega) hk
          · rw [if_neg (fun e => q2 (by
              have := (hN.2 i kr hi30 kr1 q1 kr2).1 (by rw [kr3]; exact j1.mp e)
              rw [this, kr3])), kl, if_neg (fun e => q2 e.2.1)]
            exact ih (i + 1) s D n (by omega) (by omega) hk
        · rw [if_pos (j0.mpr (by cases q : bl i; rfl; exact absurd q q1)), kl, if_neg (fun e => q1 e.1)]
          exact ih (i + 1) s D n (by omega) (by omega) hk
    exact main 30 0 s D zFU rfl (by unfold zFU; omega) hk
end M82
