/-! THE MATHEMATICS: the drafts of an alphabet, both -/
def pDc (a b : Nat) : Prop := ¬ (a = 2 ∧ 2 ≤ b ∧ b ≤ 4) ∧ ¬ (12 ≤ a ∧ a ≤ 16)
def pDr (a b : Nat) : Prop := ¬ (a = 102 ∧ 4 ≤ b ∧ b ≤ 6) ∧ ¬ (a = 102 ∧ 10 ≤ b ∧ b ≤ 13) ∧ a ≠ 104 ∧ a ≠ 106 ∧ a ≠ 108 ∧ ¬ (111 ≤ a ∧ a ≤ 118)
def dW (W h ns nw : Nat) (D : zD) : Prop :=
  (2 ≤ W ∧ W ≤ 6 ∧ 2 ≤ h ∧ h ≤ 5 ∧ ns ≤ 12 ∧ nw ≤ 8) ∧
  (gI D 12 0 = nI W ∧ gI D 12 1 = nI h ∧ gI D 12 2 = nI ns ∧ gI D 12 3 = nI nw) ∧
  (∀ s, s < ns → un (gI D 13 s) < 2 ^ (W * h) ∧ (gI D 14 s = -1 ∨ ∃ f, f < 4 ∧ gI D 14 s = nI f)) ∧
  (∀ k, k < nw → ∃ l, 1 ≤ l ∧ l ≤ 6 ∧ gI D 16 k = nI l ∧ ∀ i, i < l → ∃ s, s < ns ∧ gI D 15 (k * 6 + i) = nI s)
def dR (W h ns nw : Nat) (D E : zD) : Prop :=
  (gI E 102 10 = nI W ∧ gI E 102 11 = nI h ∧ gI E 102 12 = nI ns ∧ gI E 102 13 = nI nw) ∧
  (∀ s, s < ns → gI E 104 s = gI D 13 s ∧ gI E 106 s = gI D 14 s) ∧
  (∀ k, k < nw → gI E 108 k = gI D 16 k ∧ ∀ l, gI D 16 k = nI l → l ≤ 6 → ∀ i, i < l → gI E (111 + k) i = gI D 15 (k * 6 + i))
section M9i
variable {D E : zD} {W h ns nw : Nat}
theorem dW.keep {F : zD} (d : dW W h ns nw D) (g : ∀ a b, 12 ≤ a → a ≤ 16 → gI F a b = gI D a b) : dW W h ns nw F := by
  obtain ⟨h1, ⟨e0, e1, e2, e3⟩, h3, h4⟩ := d
  refine ⟨h1, ⟨by rw [g _ _ (by omega) (by omega), e0], by rw [g _ _ (by omega) (by omega), e1], by rw [g _ _ (by omega) (by omega), e2], by rw [g _ _ (by omega) (by omega), e3]⟩, fun s hs => ?_, fun k hk => ?_⟩
  · rw [g 13 _ (by omega) (by omega), g 14 _ (by omega) (by omega)]; exact h3 s hs
  · obtain ⟨l, l1, l2, l3, l4⟩ := h4 k hk
    exact ⟨l, l1, l2, by rw [g _ _ (by omega) (by omega), l3], fun i hi => by rw [g _ _ (by omega) (by omega)]; exact l4 i hi⟩
theorem dR.keep {F G : zD} (d : dR W h ns nw D E) (hw : nw ≤ 8) (g : ∀ a b, 12 ≤ a → a ≤ 16 → gI F a b = gI D a b) (k : ∀ a b, (a = 102 ∧ 10 ≤ b ∧ b ≤ 13) ∨ a = 104 ∨ a = 106 ∨ a = 108 ∨ (111 ≤ a ∧ a ≤ 118) → gI G a b = gI E a b) : dR W h ns nw F G := by
  obtain ⟨⟨e0, e1, e2, e3⟩, h3, h4⟩ := d
  refine ⟨⟨by rw [k _ _ (by omega), e0], by rw [k _ _ (by omega), e1], by rw [k _ _ (by omega), e2], by rw [k _ _ (by omega), e3]⟩, fun s hs => ?_, fun j hj => ?_⟩
  · rw [g 13 _ (by omega) (by omega), g 14 _ (by omega) (by omega), k 104 _ (by omega), k 106 _ (by omega)]; exact h3 s hs
  · rw [g 16 _ (by omega) (by omega), k 108 _ (by omega)]
    refine ⟨(h4 j hj).1, fun l hl l6 i hi => ?_⟩
    rw [k _ _ (by omega), g _ _ (by omega) (by omega)]
    exact (h4 j hj).2 l hl l6 i hi
theorem dW.paint (d : dW W h ns nw D) {s : Nat} {x : Int32} (hx : un x < 2 ^ (W * h)) : dW W h ns nw (sI D 13 s x) := by
  obtain ⟨h1, ⟨e0, e1, e2, e3⟩, h3, h4⟩ := d
  refine ⟨h1, ⟨by rw [gI_na (by omega), e0], by rw [gI_na (by omega), e1], by rw [gI_na (by omega), e2], by rw [gI_na (by omega), e3]⟩, fun t ht => ?_, fun k hk => ?_⟩
  · rw [gI_na (a := 14) (by omega)]
    refine ⟨?_, (h3 t ht).2⟩
    by_cases q : t = s
    · rw [q, gI_eq]; exact hx
    · rw [gI_nb q]; exact (h3 t ht).1
  · obtain ⟨l, l1, l2, l3, l4⟩ := h4 k hk
    exact ⟨l, l1, l2, by rw [gI_na (by omega), l3], fun i hi => by rw [gI_na (by omega)]; exact l4 i hi⟩
theorem dR.paint (d : dR W h ns nw D E) (hw : nw ≤ 8) {s : Nat} {x : Int32} {F : zD} (g : ∀ a b, gI F a b = if a = 104 ∧ b = s then x else gI E a b) : dR W h ns nw (sI D 13 s x) F := by
  obtain ⟨⟨e0, e1, e2, e3⟩, h3, h4⟩ := d
  refine ⟨⟨by rw [g, if_neg (by omega), e0], by rw [g, if_neg (by omega), e1], by rw [g, if_neg (by omega), e2], by rw [g, if_neg (by omega), e3]⟩, fun t ht => ?_, fun k hk => ?_⟩
  · rw [gI_na (a := 14) (by omega), g 106, if_neg (by omega), g 104]
    refine ⟨?_, (h3 t ht).2⟩
    by_cases q : t = s
    · rw [if_pos ⟨rfl, q⟩, q, gI_eq]
    · rw [if_neg (by omega), gI_nb q]; exact (h3 t ht).1
  · rw [gI_na (a := 16) (by omega), g 108, if_neg (by omega)]
    refine ⟨(h4 k hk).1, fun l hl l6 i hi => ?_⟩
    rw [g, if_neg (by omega), gI_na (by omega)]
    exact (h4 k hk).2 l hl l6 i hi
theorem dW.new (d : dW W h ns nw D) (hn : ns < 12) {x : Int32} (hx : un x < 2 ^ (W * h)) : dW W h (ns + 1) nw (sI (sI (sI D 13 ns x) 14 ns (-1)) 12 2 (nI (ns + 1))) := by
  obtain ⟨h1, ⟨e0, e1, e2, e3⟩, h3, h4⟩ := d
  refine ⟨by omega, ⟨by rw [gI_nb (by omega), gI_na (by omega), gI_na (by omega), e0], by rw [gI_nb (by omega), gI_na (by omega), gI_na (by omega), e1], gI_eq, by rw [gI_nb (by omega), gI_na (by omega), gI_na (by omega), e3]⟩, fun t ht => ?_, fun k hk => ?_⟩
  · rw [gI_na (a := 13) (by omega), gI_na (a := 13) (by omega), gI_na (a := 14) (k := 12) (by omega)]
    by_cases q : t = ns
    · rw [q, gI_eq, gI_eq]; exact ⟨hx, Or.inl rfl⟩
    · rw [gI_nb q, gI_nb q, gI_na (by omega)]; exact h3 t (by omega)
  · obtain ⟨l, l1, l2, l3, l4⟩ := h4 k hk
    refine ⟨l, l1, l2, by rw [gI_na (by omega), gI_na (by omega), gI_na (by omega), l3], fun i hi => ?_⟩
    rw [gI_na (by omega), gI_na (by omega), gI_na (by omega)]
    obtain ⟨s, s1, s2⟩ := l4 i hi
    exact ⟨s, by omega, s2⟩
theorem dR.new (d : dR W h ns nw D E) (hw : nw ≤ 8) {x : Int32} : dR W h (ns + 1) nw (sI (sI (sI D 13 ns x) 14 ns (-1)) 12 2 (nI (ns + 1))) (rNew E ns x) := by
  obtain ⟨⟨e0, e1, e2, e3⟩, h3, h4⟩ := d
  unfold rNew
  refine ⟨⟨by rw [gI_nb (by omega), gI_na (by omega), gI_na (by omega), e0], by rw [gI_nb (by omega), gI_na (by omega), gI_na (by omega), e1], gI_eq, by rw [gI_nb (by omega), gI_na (by omega), gI_na (by omega), e3]⟩, fun t ht => ?_, fun k hk => ?_⟩
  · rw [gI_na (a := 13) (by omega), gI_na (a := 13) (by omega), gI_na (a := 14) (k := 12) (by omega), gI_na (a := 104) (by omega), gI_na (a := 104) (by omega), gI_na (a := 106) (k := 102) (by omega)]
    by_cases q : t = ns
    · rw [q, gI_eq, gI_eq, gI_eq, gI_eq]; exact ⟨rfl, rfl⟩
    · simp only [gI_nb q]; exact h3 t (by omega)
  · rw [gI_na (a := 16) (by omega), gI_na (a := 16) (by omega), gI_na (a := 16) (by omega), gI_na (a := 108) (by omega), gI_na (a := 108) (by omega), gI_na (a := 108) (by omega)]
    refine ⟨(h4 k hk).1, fun l hl l6 i hi => ?_⟩
    rw [gI_na (by omega), gI_na (by omega), gI_na (by omega), gI_na (by omega), gI_na (by omega), gI_na (by omega)]
    exact (h4 k hk).2 l hl l6 i hi
theorem dW.fam (d : dW W h ns nw D) {s f : Nat} (hf : f < 4) : dW W h ns nw (sI D 14 s (nI f)) := by
  obtain ⟨h1, ⟨e0, e1, e2, e3⟩, h3, h4⟩ := d
  refine ⟨h1, ⟨by rw [gI_na (by omega), e0], by rw [gI_na (by omega), e1], by rw [gI_na (by omega), e2], by rw [gI_na (by omega), e3]⟩, fun t ht => ?_, fun k hk => ?_⟩
  · rw [gI_na (a := 13) (by omega)]
    refine ⟨(h3 t ht).1, ?_⟩
    by_cases q : t = s
    · rw [q, gI_eq]; exact Or.inr ⟨f, hf, rfl⟩
    · rw [gI_nb q]; exact (h3 t ht).2
  · obtain ⟨l, l1, l2, l3, l4⟩ := h4 k hk
    exact ⟨l, l1, l2, by rw [gI_na (by omega), l3], fun i hi => by rw [gI_na (by omega)]; exact l4 i hi⟩
theorem dR.fam (d : dR W h ns nw D E) (hw : nw ≤ 8) {s : Nat} {x : Int32} : dR W h ns nw (sI D 14 s x) (sI E 106 s x) := by
  obtain ⟨⟨e0, e1, e2, e3⟩, h3, h4⟩ := d
  refine ⟨⟨by rw [gI_na (by omega), e0], by rw [gI_na (by omega), e1], by rw [gI_na (by omega), e2], by rw [gI_na (by omega), e3]⟩, fun t ht => ?_, fun k hk => ?_⟩
  · rw [gI_na (a := 13) (by omega), gI_na (a := 104) (by omega)]
    refine ⟨(h3 t ht).1, ?_⟩
    by_cases q : t = s
    · rw [q, gI_eq, gI_eq]
    · rw [gI_nb q, gI_nb q]; exact (h3 t ht).2
  · rw [gI_na (a := 16) (by omega), gI_na (a := 108) (by omega)]
    refine ⟨(h4 k hk).1, fun l hl l6 i hi => ?_⟩
    rw [gI_na (by omega), gI_na (by omega)]
    exact (h4 k hk).2 l hl l6 i hi
theorem dW.board {a b : Nat} (ha : 2 ≤ a ∧ a ≤ 6) (hb : 2 ≤ b ∧ b ≤ 5) (d : dW W h 0 0 D) : dW a b 0 0 (sI (sI D 12 0 (nI a)) 12 1 (nI b)) := by
  obtain ⟨h1, ⟨e0, e1, e2, e3⟩, h3, h4⟩ := d
  exact ⟨by omega, ⟨by rw [gI_nb (by omega), gI_eq], gI_eq, by rw [gI_nb (by omega), gI_nb (by omega), e2], by rw [gI_nb (by omega), gI_nb (by omega), e3]⟩, fun t ht => absurd ht (Nat.not_lt_zero _), fun t ht => absurd ht (Nat.not_lt_zero _)⟩
/-- a body of a clause, both -/
def bod (n : Nat) (B : Nat → Int32) (p W h ns nw : Nat) (C : Option (Int32 × zD)) (R : zD → Option zD) (D : zD) : Prop :=
  zok C fun q => ag pDc D q.2 ∧ ((q.1 = 0 ∧ ∃ f, cF f q.2 ∧ ∀ E, rdS n B p E → dR W h ns nw D E → zok (R E) fun F => agL pDr E F ∧ rdF f F) ∨
    (q.1 = 1 ∧ ∃ e a b c d, cS n B e q.2 ∧ dW a b c d q.2 ∧ ∀ E, rdS n B p E → dR W h ns nw D E → zok (R E) fun F => agL pDr E F ∧ rdS n B e F ∧ dR a b c d q.2 F))
end M9i
