/-! THE MATHEMATICS: a clause's checks, the reference -/
def ckd (j t ns nw : Nat) : Nat := if 2 ≤ j ∧ j ≤ 4 ∧ ns = 0 then 1 else if t = 60 then 3 else if (j = 1 ∨ j = 5 ∨ j = 6) ∧ ns = 12 then 3 else if j = 8 ∧ nw = 8 then 3 else if j = 0 ∧ 0 < t then 4 else 0
def pDs (a b : Nat) : Prop := pDr a b ∧ ¬ (a = 102 ∧ b = 7)
def pR7 (a b : Nat) : Prop := pRd a b ∧ ¬ (a = 102 ∧ b = 7)
section M9l
variable {D : zD} {n p s t j W h ns nw : Nat} {B : Nat → Int32}
theorem r_129F {f : Nat × Nat} (k : rdF f D) (v1 v2 : Int32) : fn_X12_clause_129 v1 v2 D = some D := by
  unfold fn_X12_clause_129
  rw [if_neg (rdF_ne k)]
theorem r_check (hD : rdS n B s D) (h7 : gI D 102 7 = nI t) (ht : t ≤ 60) (h12 : gI D 102 12 = nI ns) (hn : ns ≤ 12) (h13 : gI D 102 13 = nI nw) (hw : nw ≤ 8) (hj : j < 9) {v2 : Int32} (hv : (v2 = 0 ∧ ¬ (j = 1 ∨ j = 5 ∨ j = 6)) ∨ (v2 = 1 ∧ (j = 1 ∨ j = 5 ∨ j = 6))) :
    (ckd j t ns nw = 0 → fn_X12_clause_26 (nI j) v2 D = fn_X12_clause_129 (nI j) v2 D) ∧ (ckd j t ns nw ≠ 0 → zok (fn_X12_clause_26 (nI j) v2 D) fun F => agL pRd D F ∧ rdF (ckd j t ns nw, s) F) := by
  have wr : ∀ k, 1 ≤ k ∧ k < 10 → zok ((fn_X12_wrong (nI k) (gI D 102 4) D).bind fun D4 => fn_X12_clause_129 (nI j) v2 D4) fun F => agL pRd D F ∧ rdF (k, s) F := fun k hk => by
    rw [hD.2.2.1]
    refine (r_wrong (k := k) (pl := s) hD hk).bind fun F ⟨f1, f2, _⟩ => ?_
    rw [r_129F f1, zok_some]
    exact ⟨f2, f1⟩
  have hin : fn_X12_in (nI j) 2 4 = some (if 2 ≤ j ∧ j ≤ 4 then 1 else 0) := by
    rw [x_in]
    have j1 : nI j < (2 : Int32) ↔ j < 2 := nLt j 2 (by omega) (by omega)
    have j2 : (4 : Int32) < nI j ↔ 4 < j := nLt 4 j (by omega) (by omega)
    congr 1
    by_cases q1 : j < 2
    · rw [if_pos (j1.mpr q1), if_neg (by omega)]
    · rw [if_neg (fun r => q1 (j1.mp r))]
      by_cases q2 : 4 < j
      · rw [if_pos (j2.mpr q2), if_neg (by omega)]
      · rw [if_neg (fun r => q2 (j2.mp r)), if_pos (by omega)]
  have e1 : ¬ nI j = (-1 : Int32) := fun r => (nM1 _ (by omega)).mp r
  have e12z : gI D 102 12 = 0 ↔ ns = 0 := by rw [h12]; exact nEq0 _ (by omega)
  have e7 : gI D 102 7 = 60 ↔ t = 60 := by rw [h7]; exact nEq t 60 (by omega) (by omega)
  have e7z : gI D 102 7 ≤ 0 ↔ t = 0 := by rw [h7]; exact nLe0 _ (by omega)
  have e12 : gI D 102 12 = 12 ↔ ns = 12 := by rw [h12]; exact nEq ns 12 (by omega) (by omega)
  have e13 : gI D 102 13 = 8 ↔ nw = 8 := by rw [h13]; exact nEq nw 8 (by omega) (by omega)
  have ej8 : nI j = (8 : Int32) ↔ j = 8 := nEq j 8 (by omega) (by omega)
  have ej0 : nI j = (0 : Int32) ↔ j = 0 := nEq0 j (by omega)
  have s109 : ¬ (j = 8 ∧ nw = 8) → (ckd j t ns nw = if j = 0 ∧ 0 < t then 4 else 0) → (ckd j t ns nw = 0 → fn_X12_clause_109 (nI j) v2 D = fn_X12_clause_129 (nI j) v2 D) ∧ (ckd j t ns nw ≠ 0 → zok (fn_X12_clause_109 (nI j) v2 D) fun F => agL pRd D F ∧ rdF (ckd j t ns nw, s) F) := by
    intro _ hk
    rw [hk]
    unfold fn_X12_clause_109
    by_cases q : j = 0
    · rw [if_pos (ej0.mpr q)]
      by_cases r : t = 0
      · rw [if_pos (e7z.mpr r), if_neg (by omega)]
        exact ⟨fun _ => rfl, fun k => absurd rfl k⟩
      · rw [if_neg (fun k => r (e7z.mp k)), if_pos (by omega)]
        exact ⟨fun k => (by cases k), fun _ => wr 4 (by omega)⟩
    · rw [if_neg (fun k => q (ej0.mp k)), if_neg (by omega)]
      exact ⟨fun _ => rfl, fun k => absurd rfl k⟩
  have s82 : t ≠ 60 → ¬ ((j = 1 ∨ j = 5 ∨ j = 6) ∧ ns = 12) → ¬ (2 ≤ j ∧ j ≤ 4 ∧ ns = 0) → (ckd j t ns nw = 0 → fn_X12_clause_82 (nI j) v2 D = fn_X12_clause_129 (nI j) v2 D) ∧ (ckd j t ns nw ≠ 0 → zok (fn_X12_clause_82 (nI j) v2 D) fun F => agL pRd D F ∧ rdF (ckd j t ns nw, s) F) := by
    intro k1 k2 k3
    unfold fn_X12_clause_82
    by_cases q : j = 8
    · rw [if_pos (ej8.mpr q)]
      by_cases r : nw = 8
      · have hk : ckd j t ns nw = 3 := by unfold ckd; rw [if_neg k3, if_neg k1, if_neg k2, if_pos ⟨q, r⟩]
        rw [if_pos (e13.mpr r), hk]
        exact ⟨fun k => (by cases k), fun _ => wr 3 (by omega)⟩
      · rw [if_neg (fun k => r (e13.mp k))]
        exact s109 (fun k => r k.2) (by unfold ckd; rw [if_neg k3, if_neg k1, if_neg k2, if_neg (fun k => r k.2)])
    · rw [if_neg (fun k => q (ej8.mp k))]
      exact s109 (fun k => q k.1) (by unfold ckd; rw [if_neg k3, if_neg k1, if_neg k2, if_neg (fun k => q k.1)])
  have s60 : ¬ (2 ≤ j ∧ j ≤ 4 ∧ ns = 0) → (ckd j t ns nw = 0 → fn_X12_clause_60 (nI j) v2 D = fn_X12_clause_129 (nI j) v2 D) ∧ (ckd j t ns nw ≠ 0 → zok (fn_X12_clause_60 (nI j) v2 D) fun F => agL pRd D F ∧ rdF (ckd j t ns nw, s) F) := by
    intro k3
    unfold fn_X12_clause_60
    by_cases q : t = 60
    · have hk : ckd j t ns nw = 3 := by unfold ckd; rw [if_neg k3, if_pos q]
      rw [if_pos (e7.mpr q), hk]
      exact ⟨fun k => (by cases k), fun _ => wr 3 (by omega)⟩
    · rw [if_neg (fun k => q (e7.mp k))]
      rcases hv with ⟨hv, hs⟩ | ⟨hv, hs⟩
      · rw [if_pos hv]
        exact s82 q (fun k => hs k.1) k3
      · rw [if_neg (show ¬ v2 = 0 by rw [hv]; decide)]
        by_cases r : ns = 12
        · have hk : ckd j t ns nw = 3 := by unfold ckd; rw [if_neg k3, if_neg q, if_pos ⟨hs, r⟩]
          rw [if_pos (e12.mpr r), hk]
          exact ⟨fun k => (by cases k), fun _ => wr 3 (by omega)⟩
        · rw [if_neg (fun k => r (e12.mp k))]
          exact s82 q (fun k => r k.2) k3
  unfold fn_X12_clause_26
  rw [if_neg e1, hin, Option.bind_some]
  by_cases q : 2 ≤ j ∧ j ≤ 4
  · rw [if_pos q, if_neg (by decide)]
    by_cases r : ns = 0
    · have hk : ckd j t ns nw = 1 := by unfold ckd; rw [if_pos ⟨q.1, q.2, r⟩]
      rw [if_pos (e12z.mpr r), hk]
      exact ⟨fun k => (by cases k), fun _ => wr 1 (by omega)⟩
    · rw [if_neg (fun k => r (e12z.mp k))]
      exact s60 (fun k => r k.2.2)
  · rw [if_neg q, if_pos rfl]
    exact s60 (fun k => q ⟨k.1, k.2.1⟩)
theorem r_129 {R : zD → Option zD} {v1 v2 : Int32} {Q1 Q : zD → Prop} (hR : ∀ E, gI E 102 5 = 0 → fn_X12_clause_129 v1 v2 E = (fn_X12_skipWord E).bind fun D6 => (R (sI D6 102 7 (gI D6 102 7 + 1))).bind fun F => fn_X12_closes 59 F)
    (hD : rdS n B s D) (h7 : gI D 102 7 = nI t) (k1 : ∀ E, rdS n B (lt6 n B s) E → agL pR7 D E → gI E 102 7 = nI (t + 1) → zok (R E) Q1) (k2 : ∀ F, Q1 F → zok (fn_X12_closes 59 F) Q) : zok (fn_X12_clause_129 v1 v2 D) Q := by
  rw [hR D hD.2.2.2.1]
  refine (r_skipWord hD).bind fun E ⟨e1, e2⟩ => ?_
  have e7 : gI E 102 7 = nI t := by rw [e2.1 _ _ (by unfold pRd; omega), h7]
  rw [e7, nI_1]
  refine (k1 _ (e1.keep fun a b q => ?_) ((e2.mono fun _ _ q => q.1).trans (agL_sI agL.refl (fun q => q.2 ⟨rfl, rfl⟩))) gI_eq).bind k2
  rcases q with ⟨rfl, q⟩ | rfl
  · rw [gI_nb (by omega)]
  · rw [gI_na (by omega)]
end M9l
