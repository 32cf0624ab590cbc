/-! THE MATHEMATICS: a faulty number is 0; a rule turned round -/
def cpl (c : Nat) (l : List Int32) : List Int32 := l.map fun x => nI (2 ^ c - 1) &&& (x ^^^ -1)
section M9u
variable {D : zD} {l : List Int32} {c a k W h n p : Nat} {B : Nat → Int32}
theorem n122 {v1 v2 v4 : Int32} {q : Int32 × zD} (e : fn_X12_number_122 v1 v2 v4 D = some q) (h5 : gI q.2 102 5 ≠ 0) : q.1 = 0 := by
  unfold fn_X12_number_122 at e
  split at e
  · cases e; exact absurd ‹_› h5
  · cases e; rfl
theorem n106 {v1 v2 v3 v4 : Int32} {q : Int32 × zD} (e : fn_X12_number_106 v1 v2 v3 v4 D = some q) (h5 : gI q.2 102 5 ≠ 0) : q.1 = 0 := by
  unfold fn_X12_number_106 at e
  obtain ⟨x, _, e⟩ := Option.bind_eq_some_iff.mp e
  split at e
  · obtain ⟨y, _, e⟩ := Option.bind_eq_some_iff.mp e
    exact n122 e h5
  · exact n122 e h5
theorem n44 {v1 v2 : Int32} : ∀ (m : Nat) {v3 v4 : Int32} {D : zD} {q : Int32 × zD}, fn_X12_number_44 v1 v2 m v3 v4 D = some q → gI q.2 102 5 ≠ 0 → q.1 = 0
  | 0, _, _, _, _, e, _ => by cases e
  | m + 1, v3, v4, D, q, e, h5 => by
    rw [fn_X12_number_44] at e
    obtain ⟨x, _, e⟩ := Option.bind_eq_some_iff.mp e
    obtain ⟨x2, _, e⟩ := Option.bind_eq_some_iff.mp e
    split at e
    · exact n106 e h5
    · obtain ⟨x3, _, e⟩ := Option.bind_eq_some_iff.mp e
      unfold fn_X12_number_91 at e
      simp only [zlet_eq] at e
      split at e
      · exact n44 m e h5
      · exact n44 m e h5
theorem r_num0 {v1 v2 : Int32} {q : Int32 × zD} (e : fn_X12_number v1 v2 D = some q) (h5 : gI q.2 102 5 ≠ 0) : q.1 = 0 := by
  unfold fn_X12_number at e
  split at e
  · obtain ⟨x, _, e⟩ := Option.bind_eq_some_iff.mp e
    simp only [zlet_eq] at e
    obtain ⟨x2, _, e⟩ := Option.bind_eq_some_iff.mp e
    obtain ⟨x3, _, e⟩ := Option.bind_eq_some_iff.mp e
    split at e
    · obtain ⟨x4, _, e⟩ := Option.bind_eq_some_iff.mp e
      exact n44 _ e h5
    · exact n44 _ e h5
  · cases e; rfl
theorem r_number2 (hD : rdS n B p D) {lo H : Nat} (hlo : lo ≤ 1000) (hH : H ≤ 1000) : zok (fn_X12_number (nI lo) (nI H - 1) D) fun q => agL pRd D q.2 ∧ ((∃ f, nm n B lo H p = .inl f ∧ q.1 = 0 ∧ rdF f q.2) ∨ ∃ v e, nm n B lo H p = .inr (v, e) ∧ lo ≤ v ∧ v < H ∧ q.1 = nI v ∧ rdS n B e q.2) := by
  obtain ⟨q, e, a1, o⟩ := r_numberOf hD hlo hH
  refine ⟨q, e, a1, ?_⟩
  rcases o with ⟨f, z1, z2⟩ | ⟨v, e', z1, z2, z3, z4⟩
  · exact Or.inl ⟨f, z1, r_num0 e (rdF_ne z2), z2⟩
  · exact Or.inr ⟨v, e', z1, (nm_lo z1).1, z2, z3, z4⟩
theorem cpl_len : (cpl c l).length = l.length := by unfold cpl; simp
theorem cpl_at {i : Nat} (hi : i < l.length) : (cpl c l).getD i 0 = nI (2 ^ c - 1) &&& (l.getD i 0 ^^^ -1) := by
  rw [gD_in (by rw [cpl_len]; exact hi), gD_in hi]
  unfold cpl
  simp
theorem un_bd (hc : c ≤ 30) : un (nI (2 ^ c - 1)) < 2 ^ c := by
  have h2 : 2 ^ c ≤ 2 ^ 30 := Nat.pow_le_pow_right (by decide) hc
  have := Nat.two_pow_pos c
  rw [un_nI (by omega)]
  omega
theorem okl_cpl (hc : c ≤ 30) (hl : okl c l) : okl c (cpl c l) := by
  refine ⟨by rw [cpl_len]; exact hl.1, fun x hx => ?_⟩
  unfold cpl at hx
  obtain ⟨y, _, e⟩ := List.mem_map.mp hx
  rw [← e]
  exact un_and (by omega) (un_bd hc)
theorem cV_cnt {s : Option (List Int32)} (hV : cV a s D) : ∃ l : List Int32, l.length ≤ 500 ∧ cL a l D ∧ ∀ m, s = some m → m = l := by
  cases s with
  | none =>
    obtain ⟨_, c, h2, h3⟩ := hV
    obtain ⟨l, l1, l2⟩ := rd_list D (a + 1) c
    exact ⟨l, by omega, ⟨by rw [l1]; exact h3, by rw [l1]; exact l2⟩, fun m hm => by cases hm⟩
  | some m =>
    obtain ⟨_, h2, h3⟩ := hV
    exact ⟨m, h2, h3, fun m' hm => by cases hm; rfl⟩
theorem rV_cnt {s : Option (List Int32)} (hV : rV k s D) : ∃ l : List Int32, l.length ≤ 500 ∧ rL k l D ∧ ∀ m, s = some m → m = l := by
  cases s with
  | none =>
    obtain ⟨_, c, h2, h3⟩ := hV
    obtain ⟨l, l1, l2⟩ := rd_list D (130 + k) c
    exact ⟨l, by omega, ⟨by rw [l1]; exact h3, by rw [l1]; exact l2⟩, fun m hm => by cases hm⟩
  | some m =>
    obtain ⟨_, h2, h3⟩ := hV
    exact ⟨m, h2, h3, fun m' hm => by cases hm; rfl⟩
theorem c_complement {s : Option (List Int32)} (hV : cV a s D) (ha : 27 ≤ a) (h4 : gI D 22 4 = nI W) (h5 : gI D 22 5 = nI h) (hW : W ≤ 6) (hh : h ≤ 5) : zok (fn_X7_complement a D) fun q => q.1 = 1 ∧ cV a (s.map (cpl (W * h))) q.2 ∧ ag (fun x _ => x ≠ a + 1) D q.2 := by
  have h30 := wh_le hW hh
  obtain ⟨l, l1, l2, l3⟩ := cV_cnt hV
  unfold fn_X7_complement
  rw [h4, h5, pk_mul, bd_eq _ (by omega), zlet_eq]
  refine z_inv l.length (fun m i (E : zD) => fn_X7_complement_16 a m (nI (2 ^ (W * h) - 1)) (nI i) E) (fun i E => (∀ j, j < i → gI E (a + 1) j = (cpl (W * h) l).getD j 0) ∧ (∀ j, i ≤ j → j < l.length → gI E (a + 1) j = l.getD j 0) ∧ ag (fun x _ => x ≠ a + 1) D E) _ ?_ ?_ 0 zFU D (Nat.zero_le _) (zfu_gt (by omega)) ⟨fun j hj => absurd hj (Nat.not_lt_zero _), fun j _ hj => l2.2 j hj, ag.refl⟩
  · intro m i E hi ⟨e1, e2, e3⟩ ih
    show zok (fn_X7_complement_16 a (m + 1) (nI (2 ^ (W * h) - 1)) (nI i) E) _
    rw [fn_X7_complement_16, e3 a 1 (by omega), l2.1, if_neg (nI_ge hi (by omega)), if_neg (show ¬ (500 : Int32) ≤ nI i from nI_ge (a := i) (b := 500) (by omega) (by omega)), zck_nI (by omega) (by omega), zck_nI (by omega) (by omega), nI_clamp (by omega), zlet_eq, e2 i (Nat.le_refl _) hi, nI_1]
    refine ih _ ⟨fun j hj => ?_, fun j h1 h2 => ?_, e3.sI (fun q => q rfl)⟩
    · by_cases q : j = i
      · rw [q, gI_eq, cpl_at hi]
      · rw [gI_nb q]; exact e1 j (by omega)
    · rw [gI_nb (by omega)]; exact e2 j (by omega) h2
  · intro m E ⟨e1, e2, e3⟩
    show zok (fn_X7_complement_16 a (m + 1) (nI (2 ^ (W * h) - 1)) (nI l.length) E) _
    rw [fn_X7_complement_16, e3 a 1 (by omega), l2.1, if_pos (nI_le (Nat.le_refl _) (by omega)), zok_some]
    refine ⟨rfl, ?_, e3⟩
    cases s with
    | none => exact ⟨by rw [e3 22 6 (by omega)]; exact hV.1, l.length, l1, by rw [e3 a 1 (by omega)]; exact l2.1⟩
    | some m =>
      have := l3 m rfl
      subst this
      exact ⟨by rw [e3 22 6 (by omega)]; exact hV.1, by rw [cpl_len]; exact l1, by rw [e3 a 1 (by omega), cpl_len]; exact l2.1, fun i hi => e1 i (by rw [cpl_len] at hi; exact hi)⟩
theorem r_complement {f g : zD → Option zD} {s : Option (List Int32)} (hV : rV k s D) (hk : k < 30) (h27 : gI D 102 27 = nI (k + 1)) (h4 : gI D 102 14 = nI W) (h5 : gI D 102 15 = nI h) (hW : W ≤ 6) (hh : h ≤ 5) : zok (fn_X12_asked_57 f g zFU 0 D) fun E => rV k (s.map (cpl (W * h))) E ∧ agL (fun x _ => x ≠ 130 + k) D E := by
  have h30 := wh_le hW hh
  obtain ⟨l, l1, l2, l3⟩ := rV_cnt hV
  refine z_inv l.length (fun m i (E : zD) => fn_X12_asked_57 f g m (nI i) E) (fun i E => (∀ j, j < i → gI E (130 + k) j = (cpl (W * h) l).getD j 0) ∧ (∀ j, i ≤ j → j < l.length → gI E (130 + k) j = l.getD j 0) ∧ agL (fun x _ => x ≠ 130 + k) D E) _ ?_ ?_ 0 zFU D (Nat.zero_le _) (zfu_gt (by omega)) ⟨fun j hj => absurd hj (Nat.not_lt_zero _), fun j _ hj => l2.2 j hj, agL.refl⟩
  · intro m i E hi ⟨e1, e2, e3⟩ ih
    show zok (fn_X12_asked_57 f g (m + 1) (nI i) E) _
    rw [fn_X12_asked_57, e3.1 102 27 (by omega), h27, nI_m1, zck_nI hk (by omega), nI_clamp (by omega), e3.1 160 k (by omega), l2.1, if_neg (nI_ge hi (by omega)), zck_nI hk (by omega), x_allCells (w := W) (h := h) (by rw [e3.1 102 14 (by omega), h4]) (by rw [e3.1 102 15 (by omega), h5]) hW hh, Option.bind_some, zck_nI hk (by omega), zck_nI (by omega) (by omega), zck_nI (by omega) (by omega), nI_clamp (by omega), zlet_eq, e2 i (Nat.le_refl _) hi, nI_1]
    refine ih _ ⟨fun j hj => ?_, fun j h1 h2 => ?_, agL_sI e3 (fun q => q rfl)⟩
    · by_cases q : j = i
      · rw [q, gI_eq, cpl_at hi]
      · rw [gI_nb q]; exact e1 j (by omega)
    · rw [gI_nb (by omega)]; exact e2 j (by omega) h2
  · intro m E ⟨e1, e2, e3⟩
    show zok (fn_X12_asked_57 f g (m + 1) (nI l.length) E) _
    rw [fn_X12_asked_57, e3.1 102 27 (by omega), h27, nI_m1, zck_nI hk (by omega), nI_clamp (by omega), e3.1 160 k (by omega), l2.1, if_pos (nI_le (Nat.le_refl _) (by omega)), zok_some]
    refine ⟨?_, e3⟩
    cases s with
    | none => exact ⟨by rw [e3.1 102 33 (by omega)]; exact hV.1, l.length, l1, by rw [e3.1 160 k (by omega)]; exact l2.1⟩
    | some m =>
      have := l3 m rfl
      subst this
      exact ⟨by rw [e3.1 102 33 (by omega)]; exact hV.1, by rw [cpl_len]; exact l1, by rw [e3.1 160 k (by omega), cpl_len]; exact l2.1, fun i hi => e1 i (by rw [cpl_len] at hi; exact hi)⟩
end M9u
