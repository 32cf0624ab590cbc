/-! THE MATHEMATICS: covers laid over one another, united, turned round: the reference -/
def rL (k : Nat) (l : List Int32) (E : zD) : Prop := gI E 160 k = nI l.length ∧ ∀ i, i < l.length → gI E (130 + k) i = l.getD i 0
def rV (k : Nat) (s : Option (List Int32)) (E : zD) : Prop := match s with
  | some l => gI E 102 33 = 0 ∧ l.length ≤ 500 ∧ rL k l E
  | none => gI E 102 33 = 1 ∧ ∃ c, c ≤ 500 ∧ gI E 160 k = nI c
def pLy (k a b : Nat) : Prop := ¬ (a = 102 ∧ b = 27) ∧ ¬ (a = 160 ∧ b = k) ∧ a ≠ 130 + k
def pNd (k a b : Nat) : Prop := ¬ (a = 102 ∧ (b = 27 ∨ b = 32 ∨ b = 33)) ∧ ¬ (a = 160 ∧ b = k) ∧ a ≠ 130 + k ∧ a ≠ 161
section M9t
variable {D : zD} {l l1 l2 : List Int32} {x : Int32} {c k : Nat}
theorem rd_list (D : zD) (o c : Nat) : ∃ l : List Int32, l.length = c ∧ ∀ i, i < c → gI D o i = l.getD i 0 := by
  refine ⟨(List.range c).map (gI D o), by simp, fun i hi => ?_⟩
  rw [gD_in (by simp; exact hi)]
  simp
theorem rM_cnt {s : Option (List Int32)} (h : rM s D) : ∃ l : List Int32, l.length ≤ 500 ∧ gI D 102 32 = nI l.length ∧ (∀ i, i < l.length → gI D 161 i = l.getD i 0) ∧ (∀ m, s = some m → m = l) := by
  cases s with
  | none =>
    obtain ⟨_, c, h2, h3⟩ := h
    obtain ⟨l, l1, l2⟩ := rd_list D 161 c
    exact ⟨l, by omega, by rw [l1]; exact h3, by rw [l1]; exact l2, fun m hm => by cases hm⟩
  | some m =>
    obtain ⟨_, h2, h3, h4⟩ := h
    exact ⟨m, h2, h3, h4, fun m' hm => by cases hm; rfl⟩
theorem r_lays {s : Option (List Int32)} (h : rM s D) (h27 : gI D 102 27 = nI k) (hk : k < 30) : zok (fn_X12_lays D) fun E => rV k s E ∧ gI E 102 27 = nI (k + 1) ∧ agL (pLy k) D E := by
  obtain ⟨l, h2, h3, h4, h5⟩ := rM_cnt h
  unfold fn_X12_lays
  rw [h27, zck_nI hk (by omega), nI_clamp (by omega), zlet_eq, h3]
  refine z_inv l.length (fun m i (E : zD) => fn_X12_lays_15 m (nI i) E) (fun i E => gI E 160 k = nI l.length ∧ (∀ j, j < i → gI E (130 + k) j = l.getD j 0) ∧ agL (pLy k) D E ∧ gI E 102 27 = nI k) _ ?_ ?_ 0 zFU _ (Nat.zero_le _) (zfu_gt (by omega)) ⟨gI_eq, fun j hj => absurd hj (Nat.not_lt_zero _), agL_sI agL.refl (by unfold pLy; omega), by rw [gI_na (by omega), h27]⟩
  · intro m i E hi ⟨e1, e2, e3, e4⟩ ih
    show zok (fn_X12_lays_15 (m + 1) (nI i) E) _
    rw [fn_X12_lays_15, e3.1 102 32 (by unfold pLy; omega), h3, if_neg (nI_ge hi (by omega)), e4, zck_nI hk (by omega), zck_nI (by omega) (by omega), zck_nI (by omega) (by omega), nI_clamp (by omega), nI_clamp (by omega), zlet_eq, nI_1, e3.1 161 i (by unfold pLy; omega), h4 i hi]
    refine ih _ ⟨by rw [gI_na (by omega)]; exact e1, fun j hj => ?_, agL_sI e3 (by unfold pLy; omega), by rw [gI_na (by omega)]; exact e4⟩
    by_cases q : j = i
    · rw [q, gI_eq]
    · rw [gI_nb q]; exact e2 j (by omega)
  · intro m E ⟨e1, e2, e3, e4⟩
    show zok (fn_X12_lays_15 (m + 1) (nI l.length) E) _
    rw [fn_X12_lays_15, e3.1 102 32 (by unfold pLy; omega), h3, if_pos (nI_le (Nat.le_refl _) (by omega)), e4, nI_1, zlet_eq, zok_some]
    refine ⟨?_, gI_eq, agL_sI e3 (by unfold pLy; omega)⟩
    have e33 : gI (sI E 102 27 (nI (k + 1))) 102 33 = gI D 102 33 := by rw [gI_nb (by omega), e3.1 _ _ (by unfold pLy; omega)]
    cases s with
    | none => exact ⟨by rw [e33]; exact h.1, l.length, h2, by rw [gI_na (by omega)]; exact e1⟩
    | some m =>
      have := h5 m rfl
      subst this
      exact ⟨by rw [e33]; exact h.1, h2, by rw [gI_na (by omega)]; exact e1, fun i hi => by rw [gI_na (by omega)]; exact e2 i hi⟩
def cl0s (D : zD) : Option (List Int32) := if gI D 102 33 = 0 then some [] else none
theorem r_clearMade (h : gI D 102 33 = 0 ∨ gI D 102 33 = 1) : zok (fn_X12_clearMade D) fun E => rM (cl0s D) E ∧ agL pMk D E := by
  unfold fn_X12_clearMade
  rw [zlet_eq, zok_some]
  refine ⟨?_, agL_sI agL.refl (by unfold pMk; omega)⟩
  unfold cl0s
  rcases h with h | h
  · rw [if_pos h]
    exact ⟨by rw [gI_nb (by omega), h], Nat.zero_le _, gI_eq, fun i hi => absurd hi (Nat.not_lt_zero _)⟩
  · rw [if_neg (by rw [h]; decide)]
    exact ⟨by rw [gI_nb (by omega), h], 0, Nat.zero_le _, gI_eq⟩
theorem nI_m1 : nI (k + 1) - 1 = nI k := nI_pred k
theorem nI_m2 : nI (k + 2) - 2 = nI k := pk_sub (a := k + 2) (b := 2) (by omega)
theorem pMk_Nd {E : zD} (g : agL pMk D E) : agL (pNd k) D E := g.mono fun a b q => ⟨by have := q.1; omega, q.2.2.2⟩
theorem r_andT {f : zD → Option zD} {k4 : zD → Option zD} {s : Option (List Int32)} {Q : zD → Prop} (hk : k + 2 ≤ 30) (h27 : gI D 102 27 = nI (k + 2)) (h1 : rL k l1 D) (o1 : l1.length ≤ 500) (h2 : rL (k + 1) l2 D) (o2 : l2.length ≤ 500) (hM : rM s D)
    (hQ : ∀ E, rV k (ovl l1 l2 s) E → gI E 102 27 = nI (k + 1) → agL (pNd k) D E → zok (k4 E) Q) : zok (fn_X12_ands_33 f k4 zFU 0 D) Q := by
  have c1 : ∀ {E : zD}, agL pMk D E → gI E 160 k = nI l1.length ∧ gI E 160 (k + 1) = nI l2.length ∧ gI E 102 27 = nI (k + 2) := fun g => by
    rw [g.1 _ _ (by unfold pMk; omega), g.1 _ _ (by unfold pMk; omega), g.1 _ _ (by unfold pMk; omega)]
    exact ⟨h1.1, h2.1, h27⟩
  have c2 : ∀ {E : zD}, agL pMk D E → (∀ i, i < l1.length → gI E (130 + k) i = l1.getD i 0) ∧ ∀ i, i < l2.length → gI E (130 + (k + 1)) i = l2.getD i 0 := fun g => ⟨fun i hi => by rw [g.1 _ _ (by unfold pMk; omega)]; exact h1.2 i hi, fun i hi => by rw [g.1 _ _ (by unfold pMk; omega)]; exact h2.2 i hi⟩
  refine z_inv l1.length (fun m i (E : zD) => fn_X12_ands_33 f k4 m (nI i) E) (fun i E => rM (zfo (fun i s => zfo (fun j s => stp s (l1.getD i 0 ||| l2.getD j 0)) l2.length 0 s) i 0 s) E ∧ agL pMk D E) _ ?_ ?_ 0 zFU D (Nat.zero_le _) (zfu_gt (by omega)) ⟨hM, agL.refl⟩
  · intro m i E hi ⟨e1, e2⟩ ih
    show zok (fn_X12_ands_33 f k4 (m + 1) (nI i) E) _
    rw [fn_X12_ands_33, (c1 e2).2.2, nI_m2, zck_nI (by omega) (by omega), nI_clamp (by omega), (c1 e2).1, if_neg (nI_ge hi (by omega))]
    have nx := zfo_last (fun i s => zfo (fun j s => stp s (l1.getD i 0 ||| l2.getD j 0)) l2.length 0 s) i 0 s
    rw [Nat.zero_add] at nx
    generalize zfo (fun i s => zfo (fun j s => stp s (l1.getD i 0 ||| l2.getD j 0)) l2.length 0 s) i 0 s = s0 at *
    refine z_inv l2.length (fun m' j (E : zD) => fn_X12_ands_50 f (fn_X12_ands_33 f k4 m) m' (nI i) (nI j) E) (fun j E => rM (zfo (fun j s => stp s (l1.getD i 0 ||| l2.getD j 0)) j 0 s0) E ∧ agL pMk D E) _ ?_ ?_ 0 zFU E (Nat.zero_le _) (zfu_gt (by omega)) ⟨e1, e2⟩
    · intro m' j E hj ⟨f1, f2⟩ ih2
      show zok (fn_X12_ands_50 f (fn_X12_ands_33 f k4 m) (m' + 1) (nI i) (nI j) E) _
      have nx2 := zfo_last (fun j s => stp s (l1.getD i 0 ||| l2.getD j 0)) j 0 s0
      rw [Nat.zero_add] at nx2
      rw [fn_X12_ands_50, (c1 f2).2.2, nI_m2, show nI (k + 2) - 1 = nI (k + 1) from nI_m1, zck_nI (by omega) (by omega), nI_clamp (by omega), (c1 f2).2.1, if_neg (nI_ge hj (by omega)), zck_nI (by omega) (by omega), zck_nI (by omega) (by omega), zck_nI (by omega) (by omega), zck_nI (by omega) (by omega), nI_clamp (by omega), nI_clamp (by omega), nI_clamp (by omega), (c2 f2).1 i hi, (c2 f2).2 j hj, nI_1]
      refine (r_makes f1 _).bind fun F ⟨g1, g2⟩ => ih2 F ⟨?_, f2.trans g2⟩
      rw [nx2]
      exact g1
    · intro m' E ⟨f1, f2⟩
      show zok (fn_X12_ands_50 f (fn_X12_ands_33 f k4 m) (m' + 1) (nI i) (nI l2.length) E) _
      rw [fn_X12_ands_50, (c1 f2).2.2, show nI (k + 2) - 1 = nI (k + 1) from nI_m1, zck_nI (by omega) (by omega), nI_clamp (by omega), (c1 f2).2.1, if_pos (nI_le (Nat.le_refl _) (by omega)), nI_1]
      exact ih E ⟨by rw [nx]; exact f1, f2⟩
  · intro m E ⟨e1, e2⟩
    show zok (fn_X12_ands_33 f k4 (m + 1) (nI l1.length) E) _
    rw [fn_X12_ands_33, (c1 e2).2.2, nI_m2, zck_nI (by omega) (by omega), nI_clamp (by omega), (c1 e2).1, if_pos (nI_le (Nat.le_refl _) (by omega))]
    unfold fn_X12_ands_108
    rw [(c1 e2).2.2, nI_m2, zlet_eq]
    have e1' : rM (ovl l1 l2 s) (sI E 102 27 (nI k)) := by
      show rM (zfo _ l1.length 0 s) _
      cases hz : zfo (fun i s => zfo (fun j s => stp s (l1.getD i 0 ||| l2.getD j 0)) l2.length 0 s) l1.length 0 s with
      | none =>
        rw [hz] at e1
        obtain ⟨w1, c, w2, w3⟩ := e1
        exact ⟨by rw [gI_nb (by omega), w1], c, w2, by rw [gI_nb (by omega), w3]⟩
      | some l =>
        rw [hz] at e1
        obtain ⟨w1, w2, w3, w4⟩ := e1
        exact ⟨by rw [gI_nb (by omega), w1], w2, by rw [gI_nb (by omega), w3], fun i hi => by rw [gI_na (by omega)]; exact w4 i hi⟩
    refine (r_lays e1' gI_eq (by omega)).bind fun F ⟨g1, g2, g3⟩ => hQ F g1 g2 ?_
    exact (pMk_Nd e2).trans ((agL_sI agL.refl (by unfold pNd; omega)).trans (g3.mono fun a b q => by unfold pNd at q; unfold pLy; omega))
theorem r_orT {f : zD → Option zD} {k4 : zD → Option zD} {s : Option (List Int32)} {Q : zD → Prop} (hk : k + 2 ≤ 30) (h27 : gI D 102 27 = nI (k + 2)) (h1 : rL k l1 D) (o1 : l1.length ≤ 500) (h2 : rL (k + 1) l2 D) (o2 : l2.length ≤ 500) (hM : rM s D)
    (hQ : ∀ E, rV k (ful l2 (ful l1 s)) E → gI E 102 27 = nI (k + 1) → agL (pNd k) D E → zok (k4 E) Q) : zok (fn_X12_ors_39 f k4 zFU (nI k) D) Q := by
  have c1 : ∀ {E : zD}, agL pMk D E → gI E 160 k = nI l1.length ∧ gI E 160 (k + 1) = nI l2.length ∧ gI E 102 27 = nI (k + 2) := fun g => by
    rw [g.1 _ _ (by unfold pMk; omega), g.1 _ _ (by unfold pMk; omega), g.1 _ _ (by unfold pMk; omega)]
    exact ⟨h1.1, h2.1, h27⟩
  have c2 : ∀ {E : zD}, agL pMk D E → (∀ i, i < l1.length → gI E (130 + k) i = l1.getD i 0) ∧ ∀ i, i < l2.length → gI E (130 + (k + 1)) i = l2.getD i 0 := fun g => ⟨fun i hi => by rw [g.1 _ _ (by unfold pMk; omega)]; exact h1.2 i hi, fun i hi => by rw [g.1 _ _ (by unfold pMk; omega)]; exact h2.2 i hi⟩
  have one : ∀ (v : Nat) (l : List Int32) (m : Nat) (s0 : Option (List Int32)) (E : zD), v < 30 → l.length ≤ 500 → (∀ {E : zD}, agL pMk D E → gI E 160 v = nI l.length ∧ ∀ i, i < l.length → gI E (130 + v) i = l.getD i 0) → rM s0 E → agL pMk D E → (∀ F, rM (ful l s0) F → agL pMk D F → zok (fn_X12_ors_39 f k4 m (nI (v + 1)) F) Q) → zok (fn_X12_ors_49 f (fn_X12_ors_39 f k4 m) zFU (nI v) 0 E) Q := by
    intro v l m s0 E hv ol cc e1 e2 hF
    refine z_inv l.length (fun m' j (E : zD) => fn_X12_ors_49 f (fn_X12_ors_39 f k4 m) m' (nI v) (nI j) E) (fun j E => rM (zfo (fun j s => stp s (l.getD j 0)) j 0 s0) E ∧ agL pMk D E) _ ?_ ?_ 0 zFU E (Nat.zero_le _) (zfu_gt (by omega)) ⟨e1, e2⟩
    · intro m' j E hj ⟨f1, f2⟩ ih2
      show zok (fn_X12_ors_49 f (fn_X12_ors_39 f k4 m) (m' + 1) (nI v) (nI j) E) _
      have nx2 := zfo_last (fun j s => stp s (l.getD j 0)) j 0 s0
      rw [Nat.zero_add] at nx2
      rw [fn_X12_ors_49, zck_nI hv (by omega), nI_clamp (by omega), (cc f2).1, if_neg (nI_ge hj (by omega)), zck_nI hv (by omega), zck_nI (by omega) (by omega), nI_clamp (by omega), (cc f2).2 j hj, nI_1]
      refine (r_makes f1 _).bind fun F ⟨g1, g2⟩ => ih2 F ⟨?_, f2.trans g2⟩
      rw [nx2]
      exact g1
    · intro m' E ⟨f1, f2⟩
      show zok (fn_X12_ors_49 f (fn_X12_ors_39 f k4 m) (m' + 1) (nI v) (nI l.length) E) _
      rw [fn_X12_ors_49, zck_nI hv (by omega), nI_clamp (by omega), (cc f2).1, if_pos (nI_le (Nat.le_refl _) (by omega)), nI_1]
      exact hF E f1 f2
  show zok (fn_X12_ors_39 f k4 (4294967293 + 1 + 1 + 1) (nI k) D) Q
  rw [fn_X12_ors_39, h27, if_neg (nI_ge (by omega) (by omega))]
  refine one k l1 _ s D (by omega) o1 (fun g => ⟨(c1 g).1, (c2 g).1⟩) hM agL.refl fun E e1 e2 => ?_
  rw [fn_X12_ors_39, (c1 e2).2.2, if_neg (nI_ge (by omega) (by omega))]
  refine one (k + 1) l2 _ _ E (by omega) o2 (fun g => ⟨(c1 g).2.1, (c2 g).2⟩) e1 e2 fun F f1 f2 => ?_
  rw [fn_X12_ors_39, (c1 f2).2.2, if_pos (nI_le (Nat.le_refl _) (by omega))]
  unfold fn_X12_ors_83
  rw [(c1 f2).2.2, nI_m2, zlet_eq]
  have e1' : rM (ful l2 (ful l1 s)) (sI F 102 27 (nI k)) := by
    cases hz : ful l2 (ful l1 s) with
    | none =>
      rw [hz] at f1
      obtain ⟨w1, c, w2, w3⟩ := f1
      exact ⟨by rw [gI_nb (by omega), w1], c, w2, by rw [gI_nb (by omega), w3]⟩
    | some l =>
      rw [hz] at f1
      obtain ⟨w1, w2, w3, w4⟩ := f1
      exact ⟨by rw [gI_nb (by omega), w1], w2, by rw [gI_nb (by omega), w3], fun i hi => by rw [gI_na (by omega)]; exact w4 i hi⟩
  refine (r_lays e1' gI_eq (by omega)).bind fun G ⟨g1, g2, g3⟩ => hQ G g1 g2 ?_
  exact (pMk_Nd f2).trans ((agL_sI agL.refl (by unfold pNd; omega)).trans (g3.mono fun a b q => by unfold pNd at q; unfold pLy; omega))
end M9t
