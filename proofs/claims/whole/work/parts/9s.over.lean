/-! THE MATHEMATICS: covers laid over one another, united, turned round: the class -/
def ovl (l1 l2 : List Int32) (s : Option (List Int32)) : Option (List Int32) := zfo (fun i s => zfo (fun j s => stp s (l1.getD i 0 ||| l2.getD j 0)) l2.length 0 s) l1.length 0 s
def ful (l : List Int32) (s : Option (List Int32)) : Option (List Int32) := zfo (fun i s => stp s (l.getD i 0)) l.length 0 s
def okl (c : Nat) (l : List Int32) : Prop := l.length ≤ 500 ∧ ∀ x, x ∈ l → un x < 2 ^ c
def okc (c : Nat) (s : Option (List Int32)) : Prop := ∀ l, s = some l → okl c l
def cV (a : Nat) (s : Option (List Int32)) (D : zD) : Prop := match s with
  | some l => gI D 22 6 = 0 ∧ l.length ≤ 500 ∧ cL a l D
  | none => gI D 22 6 = 1 ∧ ∃ c, c ≤ 500 ∧ gI D a 1 = nI c
def pOv (a b c : Nat) : Prop := ¬ (b = 22 ∧ c = 6) ∧ ¬ (b = 24 ∧ c = 1) ∧ b ≠ 25 ∧ b ≠ 26 ∧ ¬ (b = a ∧ c = 1) ∧ b ≠ a + 1
section M9s
variable {D : zD} {l l1 l2 : List Int32} {x : Int32} {c a : Nat}
theorem zfo_none {f : Nat → Option (List Int32) → Option (List Int32)} (h : ∀ i, f i none = none) : ∀ m i, zfo f m i none = none
  | 0, _ => rfl
  | m + 1, i => by rw [zfo_last, zfo_none h m i]; exact h _
theorem zfo_cut {f : Nat → Option (List Int32) → Option (List Int32)} (h : ∀ i, f i none = none) {s : Option (List Int32)} {k : Nat} : ∀ m, k ≤ m → zfo f k 0 s = none → zfo f m 0 s = none
  | 0, hk, e => by rw [show k = 0 by omega] at e; exact e
  | m + 1, hk, e => by
    by_cases q : k = m + 1
    · rw [← q]; exact e
    · rw [zfo_last, zfo_cut h m (by omega) e]; exact h _
theorem okc_stp {s : Option (List Int32)} (h : okc c s) (hx : un x < 2 ^ c) : okc c (stp s x) := by
  intro l hl
  cases s with
  | none => cases hl
  | some k =>
    by_cases q : x ∈ k
    · rw [stp_in q] at hl; cases hl; exact h _ rfl
    · by_cases r : k.length < 500
      · rw [stp_new q r] at hl
        cases hl
        refine ⟨by rw [len_app]; omega, fun y hy => ?_⟩
        rcases List.mem_append.mp hy with g | g
        · exact (h _ rfl).2 y g
        · rw [List.mem_singleton.mp g]; exact hx
      · rw [stp_full q r] at hl; cases hl
theorem okc_zfo {f : Nat → Option (List Int32) → Option (List Int32)} : ∀ {m i : Nat} {s : Option (List Int32)}, (∀ k s, i ≤ k → k < i + m → okc c s → okc c (f k s)) → okc c s → okc c (zfo f m i s)
  | 0, _, _, _, h => h
  | m + 1, i, s, hf, h => by
    rw [zfo_last]
    exact hf _ _ (by omega) (by omega) (okc_zfo (fun k s h1 h2 => hf k s h1 (by omega)) h)
theorem okc_nil : okc c (some []) := fun l hl => by cases hl; exact ⟨Nat.zero_le _, fun x hx => by cases hx⟩
theorem stp_pos {s : Option (List Int32)} (h : stp s x = some l) : 1 ≤ l.length := by
  cases s with
  | none => cases h
  | some k =>
    by_cases q : x ∈ k
    · rw [stp_in q] at h
      cases h
      cases l with
      | nil => cases q
      | cons a b => simp
    · by_cases r : k.length < 500
      · rw [stp_new q r] at h; cases h; rw [len_app]; omega
      · rw [stp_full q r] at h; cases h
/-- what was put in lies there -/
theorem stp_mem {s : Option (List Int32)} (h : stp s x = some l) : x ∈ l := by
  cases s with
  | none => cases h
  | some k =>
    by_cases q : x ∈ k
    · rw [stp_in q] at h
      cases h
      exact q
    · by_cases r : k.length < 500
      · rw [stp_new q r] at h; cases h; exact List.mem_append_right _ List.mem_cons_self
      · rw [stp_full q r] at h; cases h
theorem ful_pos {s : Option (List Int32)} (hl : 1 ≤ l1.length) (h : ful l1 s = some l) : 1 ≤ l.length := by
  unfold ful at h
  obtain ⟨m, hm⟩ : ∃ m, l1.length = m + 1 := ⟨l1.length - 1, by omega⟩
  rw [hm, zfo_last] at h
  exact stp_pos h
theorem ovl_pos {s : Option (List Int32)} (h1 : 1 ≤ l1.length) (h2 : 1 ≤ l2.length) (h : ovl l1 l2 s = some l) : 1 ≤ l.length := by
  unfold ovl at h
  obtain ⟨m, hm⟩ : ∃ m, l1.length = m + 1 := ⟨l1.length - 1, by omega⟩
  obtain ⟨m2, hm2⟩ : ∃ m, l2.length = m + 1 := ⟨l2.length - 1, by omega⟩
  rw [hm, zfo_last, hm2, zfo_last] at h
  exact stp_pos h
theorem un_m1 (hc : c ≤ 30) (hx : un x < 2 ^ c) : x ≠ -1 := by
  rintro rfl
  have : un (-1 : Int32) = 4294967295 := rfl
  have h2 : 2 ^ c ≤ 2 ^ 30 := Nat.pow_le_pow_right (by decide) hc
  omega
theorem okl_at (h : okl c l) {i : Nat} (hi : i < l.length) : un (l.getD i 0) < 2 ^ c := h.2 _ (gD_mem hi)
theorem okc_ful (h : okl c l) {s : Option (List Int32)} (hs : okc c s) : okc c (ful l s) := okc_zfo (fun k _ _ hk h2 => okc_stp h2 (okl_at h (by omega))) hs
theorem okc_ovl (hc : c ≤ 32) (h1 : okl c l1) (h2 : okl c l2) {s : Option (List Int32)} (hs : okc c s) : okc c (ovl l1 l2 s) := okc_zfo (fun k _ _ hk h3 => okc_zfo (fun j _ _ hj h4 => okc_stp h4 (un_or hc (okl_at h1 (by omega)) (okl_at h2 (by omega)))) h3) hs
/-- the copy from 24 -/
theorem c_take24 {n : Nat} (ha : 27 ≤ a) (h : gI D 24 1 = nI n) (hn : n ≤ 500) : zok (fn_X3_copyFrom a 24 D) fun E => gI E a 1 = nI n ∧ (∀ i, i < n → gI E (a + 1) i = gI D 25 i) ∧ gI E 22 6 = gI D 22 6 ∧ ag (pOv a) D E := by
  unfold fn_X3_copyFrom
  have hz : zmx 0 (zmn (nI n) 500) = nI n := by
    rw [show (500 : Int32) = nI 500 from rfl, zmn_n _ _ (by omega) (by omega), show (0 : Int32) = nI 0 from rfl, zmx_n _ _ (by omega) (by omega)]
    congr 1
    omega
  rw [h, hz, zlet_eq, gI_eq, zcp_n hn (by omega), nI_clamp (by omega), zlet_eq, zok_some]
  refine ⟨by rw [sC_na (by omega), gI_eq], fun i hi => ?_, by rw [sC_na (by omega), gI_na (by omega)], (ag.refl.sI (by unfold pOv; omega)).sC (fun b => by unfold pOv; omega)⟩
  show gI (sC (sI D a 1 (nI n)) (24 + 1) (a + 1) 0 0 n) (a + 1) i = _
  rw [sC_eq0 hi, gI_na (by omega)]
theorem pAo_Ov {E : zD} (h : ag pAo D E) : ag (pOv a) D E := h.mono fun _ _ q => ⟨q.1, q.2.1, q.2.2.1, q.2.2.2.1⟩
theorem cH_V {s : Option (List Int32)} (ha : 27 ≤ a) (h : cHs s D) : zok (fn_X3_copyFrom a 24 D) fun E => cV a s E ∧ ag (pOv a) D E := by
  cases s with
  | none =>
    obtain ⟨h1, n, h2, h3⟩ := h
    exact (c_take24 ha h3 h2).mono fun E ⟨e1, e2, e4, e3⟩ => ⟨⟨e4.trans h1, n, h2, e1⟩, e3⟩
  | some l =>
    obtain ⟨h1, h2, h3, _⟩ := h
    exact (c_take24 ha h3.1 h2).mono fun E ⟨e1, e2, e4, e3⟩ => ⟨⟨e4.trans h1, h2, e1, fun i hi => by rw [e2 i hi]; exact h3.2 i hi⟩, e3⟩
theorem c_spare (h : gI D 22 6 = 0) : zok (fn_X7_beginSpare D) fun E => cHs (some []) E ∧ ag pAo D E := by
  unfold fn_X7_beginSpare
  rw [zlet_eq, fill_eq (by decide), Option.bind_some, zok_some]
  have z : ag (fun a _ => a ≠ 26) (sI D 24 1 0) (zfill (sI D 24 1 0) 26 1024 (-1)) := ag.refl.zfill (fun b q => q rfl)
  have e : ∀ t, t < 1024 → gI (zfill (sI D 24 1 0) 26 1024 (-1)) 26 t = -1 := fun t ht => if_pos ⟨rfl, ht⟩
  refine ⟨⟨?_, Nat.zero_le _, ⟨?_, fun i hi => absurd hi (Nat.not_lt_zero _)⟩, fun x hx => (by cases hx), fun t ht => Or.inl (e t ht), fun x hx => (by cases hx), cE_zero 1024 e⟩, (ag.refl.sI (by unfold pAo; omega)).zfill (fun b => by unfold pAo; omega)⟩
  · show gI (zfill (sI D 24 1 0) 26 1024 (-1)) 22 6 = 0
    rw [z 22 6 (by omega), gI_na (by omega), h]
  · show gI (zfill (sI D 24 1 0) 26 1024 (-1)) 24 1 = nI 0
    rw [z 24 1 (by omega), gI_eq]
    rfl
theorem cH_flag {s : Option (List Int32)} (h : cHs s D) : gI D 22 6 = 0 ↔ s ≠ none := by
  cases s with
  | none => rw [h.1]; exact ⟨fun r => absurd r (by decide), fun r => absurd rfl r⟩
  | some l => exact ⟨fun _ r => (by cases r), fun _ => h.1⟩
theorem c_at {E : zD} (h : cL a l D) (hl : l.length ≤ 500) (h24 : 27 ≤ a) (g : ag pAo D E) {i : Nat} (hi : i < l.length) : fn_X3_at a (nI i) E = some (l.getD i 0) := by
  rw [v_at (nc := l.length) (by rw [g _ _ (by unfold pAo; omega)]; exact h.1) hi hl, g _ _ (by unfold pAo; omega), h.2 i hi]
theorem c_overlay {a1 a2 : Nat} (h1 : 27 ≤ a1) (h2 : 27 ≤ a2) (k1 : cL a1 l1 D) (k2 : cL a2 l2 D) (o1 : okl c l1) (o2 : okl c l2) (hc : c ≤ 30) (hf : gI D 22 6 = 0) : zok (fn_X7_overlay a1 a2 D) fun E => cV a1 (ovl l1 l2 (some [])) E ∧ ag (pOv a1) D E := by
  unfold fn_X7_overlay
  rw [if_pos hf]
  refine (c_spare hf).bind fun D0 ⟨d1, d2⟩ => ?_
  have fin : ∀ {s : Option (List Int32)} {E : zD}, s = ovl l1 l2 (some []) → cHs s E → ag pAo D E → zok ((fn_X3_copyFrom a1 24 E).bind fun D4 => some D4) fun E => cV a1 (ovl l1 l2 (some [])) E ∧ ag (pOv a1) D E := fun {s} {E} e hs g => by
    rw [bsm]
    exact (cH_V h1 hs).mono fun F ⟨f1, f2⟩ => ⟨by rw [← e]; exact f1, (pAo_Ov g).trans f2⟩
  have c1 : ∀ {E : zD}, ag pAo D E → gI E a1 1 = nI l1.length := fun g => by rw [g _ _ (by unfold pAo; omega)]; exact k1.1
  have c2 : ∀ {E : zD}, ag pAo D E → gI E a2 1 = nI l2.length := fun g => by rw [g _ _ (by unfold pAo; omega)]; exact k2.1
  refine z_inv l1.length (fun m i (E : zD) => fn_X7_overlay_14 a1 a2 m (nI i) E) (fun i E => cHs (zfo (fun i s => zfo (fun j s => stp s (l1.getD i 0 ||| l2.getD j 0)) l2.length 0 s) i 0 (some [])) E ∧ ag pAo D E) _ ?_ ?_ 0 zFU D0 (Nat.zero_le _) (zfu_gt (by have := o1.1; omega)) ⟨d1, d2⟩
  · intro m i E hi ⟨e1, e2⟩ ih
    show zok (fn_X7_overlay_14 a1 a2 (m + 1) (nI i) E) _
    have o11 := o1.1
    rw [fn_X7_overlay_14, c1 e2, if_neg (nI_ge hi (by omega))]
    by_cases q : zfo (fun i s => zfo (fun j s => stp s (l1.getD i 0 ||| l2.getD j 0)) l2.length 0 s) i 0 (some []) = none
    · rw [if_neg (fun r => (cH_flag e1).mp r q)]
      refine fin ?_ e1 e2
      rw [q]
      exact (zfo_cut (fun i => zfo_none (fun j => rfl) _ _) l1.length (by omega) q).symm
    · rw [if_pos ((cH_flag e1).mpr q)]
      have okE : okc c (zfo (fun i s => zfo (fun j s => stp s (l1.getD i 0 ||| l2.getD j 0)) l2.length 0 s) i 0 (some [])) := okc_zfo (fun k _ _ hk h3 => okc_zfo (fun j _ _ hj h4 => okc_stp h4 (un_or (by omega) (okl_at o1 (by omega)) (okl_at o2 (by omega)))) h3) okc_nil
      have nx := zfo_last (fun i s => zfo (fun j s => stp s (l1.getD i 0 ||| l2.getD j 0)) l2.length 0 s) i 0 (some [])
      generalize zfo (fun i s => zfo (fun j s => stp s (l1.getD i 0 ||| l2.getD j 0)) l2.length 0 s) i 0 (some []) = s0 at *
      rw [Nat.zero_add] at nx
      rw [c_at k1 o1.1 h1 e2 hi, Option.bind_some]
      have lm : ∀ l, s0 = some l → (-1 : Int32) = -1 ∨ (-1 : Int32) ∈ l := fun _ _ => Or.inl rfl
      refine z_inv (σ := Int32 × zD) l2.length (fun m' j q => fn_X7_overlay_42 a1 a2 (fn_X7_overlay_14 a1 a2 m) m' (nI i) (l1.getD i 0) q.1 (nI j) q.2) (fun j q => cHs (zfo (fun j s => stp s (l1.getD i 0 ||| l2.getD j 0)) j 0 s0) q.2 ∧ ag pAo D q.2 ∧ ∀ l, zfo (fun j s => stp s (l1.getD i 0 ||| l2.getD j 0)) j 0 s0 = some l → q.1 = -1 ∨ q.1 ∈ l) _ ?_ ?_ 0 zFU (-1, E) (Nat.zero_le _) (zfu_gt (by have := o2.1; omega)) ⟨e1, e2, lm⟩
      · intro m' j ⟨la, E⟩ hj ⟨f1, f2, f3⟩ ih2
        show zok (fn_X7_overlay_42 a1 a2 (fn_X7_overlay_14 a1 a2 m) (m' + 1) (nI i) (l1.getD i 0) la (nI j) E) _
        have o21 := o2.1
        rw [fn_X7_overlay_42, c2 f2, if_neg (nI_ge hj (by omega))]
        have nx2 := zfo_last (fun j s => stp s (l1.getD i 0 ||| l2.getD j 0)) j 0 s0
        rw [Nat.zero_add] at nx2
        by_cases q2 : zfo (fun j s => stp s (l1.getD i 0 ||| l2.getD j 0)) j 0 s0 = none
        · rw [if_neg (fun r => (cH_flag f1).mp r q2), nI_1]
          refine ih E ⟨?_, f2⟩
          rw [nx, zfo_cut (fun j => rfl) l2.length (by omega) q2]
          rw [q2] at f1
          exact f1
        · rw [if_pos ((cH_flag f1).mpr q2), c_at k2 o2.1 h2 f2 hj, Option.bind_some, zlet_eq, nI_1]
          have hx : un (l1.getD i 0 ||| l2.getD j 0) < 2 ^ c := un_or (by omega) (okl_at o1 hi) (okl_at o2 hj)
          obtain ⟨l3, hl3⟩ := Option.ne_none_iff_exists'.mp q2
          have f4 := f3 l3 hl3
          dsimp only at f1 f2 f4
          rw [hl3] at f1 nx2
          by_cases e : l1.getD i 0 ||| l2.getD j 0 = la
          · rw [if_pos e]
            have hin : l1.getD i 0 ||| l2.getD j 0 ∈ l3 := by
              rcases f4 with r | r
              · exact absurd (e.trans r) (un_m1 hc hx)
              · rw [e]; exact r
            rw [stp_in hin] at nx2
            refine ih2 (la, E) ⟨?_, f2, fun l hl => ?_⟩
            · rw [nx2]; exact f1
            · rw [nx2] at hl
              cases hl
              exact f4
          · rw [if_neg e]
            refine (c_addOnce f1 (un_m1 hc hx)).bind fun F ⟨g1, g2⟩ => ih2 (l1.getD i 0 ||| l2.getD j 0, F) ⟨?_, f2.trans g2, fun l hl => ?_⟩
            · rw [nx2]
              exact g1
            · rw [nx2] at hl
              exact Or.inr (stp_mem hl)
      · intro m' ⟨la, E⟩ ⟨f1, f2, f3⟩
        show zok (fn_X7_overlay_42 a1 a2 (fn_X7_overlay_14 a1 a2 m) (m' + 1) (nI i) (l1.getD i 0) la (nI l2.length) E) _
        have o21 := o2.1
        rw [fn_X7_overlay_42, c2 f2, if_pos (nI_le (Nat.le_refl _) (by omega)), nI_1]
        exact ih E ⟨by rw [nx]; exact f1, f2⟩
  · intro m E ⟨e1, e2⟩
    show zok (fn_X7_overlay_14 a1 a2 (m + 1) (nI l1.length) E) _
    have o11 := o1.1
    rw [fn_X7_overlay_14, c1 e2, if_pos (nI_le (Nat.le_refl _) (by omega))]
    exact fin rfl e1 e2
theorem c_unite {a1 a2 : Nat} (h1 : 27 ≤ a1) (h2 : 27 ≤ a2) (k1 : cL a1 l1 D) (k2 : cL a2 l2 D) (o1 : okl c l1) (o2 : okl c l2) (hc : c ≤ 30) (hf : gI D 22 6 = 0) : zok (fn_X7_unite a1 a2 D) fun E => cV a1 (ful l2 (ful l1 (some []))) E ∧ ag (pOv a1) D E := by
  have o11 := o1.1
  have o21 := o2.1
  unfold fn_X7_unite
  rw [if_pos hf]
  refine (c_spare hf).bind fun D0 ⟨d1, d2⟩ => ?_
  have c1 : ∀ {E : zD}, ag pAo D E → gI E a1 1 = nI l1.length := fun g => by rw [g _ _ (by unfold pAo; omega)]; exact k1.1
  have c2 : ∀ {E : zD}, ag pAo D E → gI E a2 1 = nI l2.length := fun g => by rw [g _ _ (by unfold pAo; omega)]; exact k2.1
  have fin : ∀ {s : Option (List Int32)} {E : zD}, s = ful l2 (ful l1 (some [])) → cHs s E → ag pAo D E → zok ((fn_X3_copyFrom a1 24 E).bind fun D4 => some D4) fun E => cV a1 (ful l2 (ful l1 (some []))) E ∧ ag (pOv a1) D E := fun {s} {E} e hs g => by
    rw [bsm]
    exact (cH_V h1 hs).mono fun F ⟨f1, f2⟩ => ⟨by rw [← e]; exact f1, (pAo_Ov g).trans f2⟩
  have second : ∀ E, cHs (ful l1 (some [])) E → ag pAo D E → zok (fn_X7_unite_46 a1 a2 zFU 0 E) fun E => cV a1 (ful l2 (ful l1 (some []))) E ∧ ag (pOv a1) D E := by
    intro E e1 e2
    refine z_inv l2.length (fun m i (E : zD) => fn_X7_unite_46 a1 a2 m (nI i) E) (fun i E => cHs (zfo (fun i s => stp s (l2.getD i 0)) i 0 (ful l1 (some []))) E ∧ ag pAo D E) _ ?_ ?_ 0 zFU E (Nat.zero_le _) (zfu_gt (by omega)) ⟨e1, e2⟩
    · intro m i E hi ⟨e1, e2⟩ ih
      show zok (fn_X7_unite_46 a1 a2 (m + 1) (nI i) E) _
      rw [fn_X7_unite_46, c2 e2, if_neg (nI_ge hi (by omega))]
      have nx2 := zfo_last (fun i s => stp s (l2.getD i 0)) i 0 (ful l1 (some []))
      rw [Nat.zero_add] at nx2
      by_cases q : zfo (fun i s => stp s (l2.getD i 0)) i 0 (ful l1 (some [])) = none
      · rw [if_neg (fun r => (cH_flag e1).mp r q)]
        refine fin ?_ e1 e2
        rw [q]
        exact (zfo_cut (fun j => rfl) l2.length (by omega) q).symm
      · rw [if_pos ((cH_flag e1).mpr q), c_at k2 o2.1 h2 e2 hi, Option.bind_some, nI_1]
        obtain ⟨l3, hl3⟩ := Option.ne_none_iff_exists'.mp q
        rw [hl3] at e1 nx2
        refine (c_addOnce e1 (un_m1 hc (okl_at o2 hi))).bind fun F ⟨g1, g2⟩ => ih F ⟨?_, e2.trans g2⟩
        rw [nx2]
        exact g1
    · intro m E ⟨e1, e2⟩
      show zok (fn_X7_unite_46 a1 a2 (m + 1) (nI l2.length) E) _
      rw [fn_X7_unite_46, c2 e2, if_pos (nI_le (Nat.le_refl _) (by omega))]
      exact fin rfl e1 e2
  refine z_inv l1.length (fun m i (E : zD) => fn_X7_unite_14 a1 a2 m (nI i) E) (fun i E => cHs (zfo (fun i s => stp s (l1.getD i 0)) i 0 (some [])) E ∧ ag pAo D E) _ ?_ ?_ 0 zFU D0 (Nat.zero_le _) (zfu_gt (by omega)) ⟨d1, d2⟩
  · intro m i E hi ⟨e1, e2⟩ ih
    show zok (fn_X7_unite_14 a1 a2 (m + 1) (nI i) E) _
    rw [fn_X7_unite_14, c1 e2, if_neg (nI_ge hi (by omega))]
    have nx2 := zfo_last (fun i s => stp s (l1.getD i 0)) i 0 (some [])
    rw [Nat.zero_add] at nx2
    by_cases q : zfo (fun i s => stp s (l1.getD i 0)) i 0 (some []) = none
    · rw [if_neg (fun r => (cH_flag e1).mp r q)]
      refine second E ?_ e2
      have : ful l1 (some []) = none := zfo_cut (fun j => rfl) l1.length (by omega) q
      rw [this]
      rw [q] at e1
      exact e1
    · rw [if_pos ((cH_flag e1).mpr q), c_at k1 o1.1 h1 e2 hi, Option.bind_some, nI_1]
      obtain ⟨l3, hl3⟩ := Option.ne_none_iff_exists'.mp q
      rw [hl3] at e1 nx2
      refine (c_addOnce e1 (un_m1 hc (okl_at o1 hi))).bind fun F ⟨g1, g2⟩ => ih F ⟨?_, e2.trans g2⟩
      rw [nx2]
      exact g1
  · intro m E ⟨e1, e2⟩
    show zok (fn_X7_unite_14 a1 a2 (m + 1) (nI l1.length) E) _
    rw [fn_X7_unite_14, c1 e2, if_pos (nI_le (Nat.le_refl _) (by omega))]
    exact second E e1 e2
theorem c_skips {a1 a2 : Nat} (hf : gI D 22 6 = 1) : fn_X7_unite a1 a2 D = some D ∧ fn_X7_overlay a1 a2 D = some D := by
  unfold fn_X7_unite fn_X7_overlay
  rw [if_neg (show ¬ gI D 22 6 = 0 by rw [hf]; decide), if_neg (show ¬ gI D 22 6 = 0 by rw [hf]; decide)]
  exact ⟨rfl, rfl⟩
end M9s
