/-! THE MATHEMATICS: lists of covers, both -/
def stp (s : Option (List Int32)) (x : Int32) : Option (List Int32) := s.bind fun l => if x ∈ l then some l else if l.length < 500 then some (l ++ [x]) else none
def cL (a : Nat) (l : List Int32) (D : zD) : Prop := gI D a 1 = nI l.length ∧ ∀ i, i < l.length → gI D (a + 1) i = l.getD i 0
def rM (s : Option (List Int32)) (E : zD) : Prop := match s with
  | some l => gI E 102 33 = 0 ∧ l.length ≤ 500 ∧ gI E 102 32 = nI l.length ∧ ∀ i, i < l.length → gI E 161 i = l.getD i 0
  | none => gI E 102 33 = 1 ∧ ∃ c, c ≤ 500 ∧ gI E 102 32 = nI c
def pMk (a b : Nat) : Prop := ¬ (a = 102 ∧ (b = 32 ∨ b = 33)) ∧ a ≠ 161
section M9r
variable {D : zD} {l : List Int32} {x : Int32}
theorem gD_in {i : Nat} (h : i < l.length) : l.getD i 0 = l[i] := by simp [List.getD_eq_getElem?_getD, h]
theorem gD_mem {i : Nat} (h : i < l.length) : l.getD i 0 ∈ l := by rw [gD_in h]; exact List.getElem_mem h
theorem mem_gD : x ∈ l ↔ ∃ i, i < l.length ∧ l.getD i 0 = x := by
  constructor
  · intro h
    obtain ⟨i, h1, h2⟩ := List.mem_iff_getElem.mp h
    exact ⟨i, h1, by rw [gD_in h1, h2]⟩
  · rintro ⟨i, h1, h2⟩
    rw [← h2]
    exact gD_mem h1
theorem gD_app1 {i : Nat} (h : i < l.length) : (l ++ [x]).getD i 0 = l.getD i 0 := by
  rw [gD_in h, gD_in (by simp; omega), List.getElem_append_left h]
theorem gD_app2 : (l ++ [x]).getD l.length 0 = x := by
  rw [gD_in (by simp)]
  simp
theorem len_app : (l ++ [x]).length = l.length + 1 := by simp
theorem stp_in (h : x ∈ l) : stp (some l) x = some l := by
  show (if x ∈ l then some l else _) = _
  rw [if_pos h]
theorem stp_new (h : ¬ x ∈ l) (k : l.length < 500) : stp (some l) x = some (l ++ [x]) := by
  show (if x ∈ l then some l else if l.length < 500 then some (l ++ [x]) else none) = _
  rw [if_neg h, if_pos k]
theorem stp_full (h : ¬ x ∈ l) (k : ¬ l.length < 500) : stp (some l) x = none := by
  show (if x ∈ l then some l else if l.length < 500 then some (l ++ [x]) else none) = _
  rw [if_neg h, if_neg k]
theorem stp_none : stp none x = none := rfl
theorem r_makes {s : Option (List Int32)} (h : rM s D) (x : Int32) : zok (fn_X12_makes x D) fun E => rM (stp s x) E ∧ agL pMk D E := by
  unfold fn_X12_makes
  cases s with
  | none =>
    rw [if_neg (show ¬ gI D 102 33 = 0 by rw [h.1]; decide), zok_some]
    exact ⟨h, agL.refl⟩
  | some l =>
    obtain ⟨h1, h2, h3, h4⟩ := h
    rw [if_pos h1]
    have hk := zff_le (fun i => decide (l.getD i 0 = x)) l.length 0
    refine z_inv (zff (fun i => decide (l.getD i 0 = x)) l.length 0) (fun m i (_ : Unit) => fn_X12_makes_10 x m (nI i) D) (fun i _ => True) _ ?_ ?_ 0 zFU () (Nat.zero_le _) (zfu_gt (by omega)) trivial
    · intro m i _ hi _ ih
      show zok (fn_X12_makes_10 x (m + 1) (nI i) D) _
      have hn := zff_no _ _ _ i (Nat.zero_le _) hi
      rw [decide_eq_false_iff_not] at hn
      rw [fn_X12_makes_10, h3, if_neg (nI_ge (by omega) (by omega)), zck_nI (by omega) (by omega), nI_clamp (by omega), h4 i (by omega), if_neg hn, nI_1]
      exact ih () trivial
    · intro m _ _
      show zok (fn_X12_makes_10 x (m + 1) (nI (zff (fun i => decide (l.getD i 0 = x)) l.length 0)) D) _
      rw [fn_X12_makes_10, h3]
      by_cases q : zff (fun i => decide (l.getD i 0 = x)) l.length 0 < l.length
      · have hy := zff_yes (fun i => decide (l.getD i 0 = x)) l.length 0 (by omega)
        rw [decide_eq_true_eq] at hy
        rw [if_neg (nI_ge q (by omega)), zck_nI (by omega) (by omega), nI_clamp (by omega), h4 _ q, if_pos hy, zok_some, stp_in (mem_gD.mpr ⟨_, q, hy⟩)]
        exact ⟨⟨h1, h2, h3, h4⟩, agL.refl⟩
      · have hx : ¬ x ∈ l := fun hm => by
          obtain ⟨i, i1, i2⟩ := mem_gD.mp hm
          have hn := zff_no (fun i => decide (l.getD i 0 = x)) l.length 0 i (Nat.zero_le _) (by omega)
          rw [decide_eq_false_iff_not] at hn
          exact hn i2
        rw [if_pos (nI_le (by omega) (by omega))]
        unfold fn_X12_makes_35
        rw [h3]
        have e5 : nI l.length = (500 : Int32) ↔ l.length = 500 := nEq l.length 500 (by omega) (by omega)
        by_cases r : l.length = 500
        · rw [if_pos (e5.mpr r), zlet_eq, zok_some, stp_full hx (by omega)]
          exact ⟨⟨gI_eq, l.length, h2, by rw [gI_nb (by omega), h3]⟩, agL_sI agL.refl (by unfold pMk; omega)⟩
        · rw [if_neg (fun t => r (e5.mp t)), zck_nI (by omega) (by omega), nI_clamp (by omega), zlet_eq, gI_na (by omega), h3, nI_1, zlet_eq, zok_some, stp_new hx (by omega)]
          refine ⟨⟨by rw [gI_nb (by omega), gI_na (by omega), h1], by rw [len_app]; omega, by rw [gI_eq, len_app], fun i hi => ?_⟩, agL_sI (agL_sI agL.refl (by unfold pMk; omega)) (by unfold pMk; omega)⟩
          rw [len_app] at hi
          rw [gI_na (by omega)]
          by_cases t : i = l.length
          · rw [t, gI_eq, gD_app2]
          · rw [gI_nb t, gD_app1 (by omega), h4 i (by omega)]
/-! the class: a table of hashes -/
def hsh (x : Int32) : Nat := un ((zushr (x * (-1640531535 : Int32)) (22 : Int32)) &&& (1023 : Int32))
theorem b_1023 : ∀ i, i < 32 → bt 1023 i = decide (i < 10) := by decide +kernel
theorem hsh_lt (x : Int32) : hsh x < 1024 := by
  have : un ((zushr (x * (-1640531535 : Int32)) (22 : Int32)) &&& (1023 : Int32)) < 2 ^ 10 := by
    rw [un_iff (by omega)]
    intro j h1 h3
    rw [b_and, b_1023 j h3, decide_eq_false (by omega), Bool.and_false]
  exact this
theorem nx_1023 : ∀ a, a < 1024 → (nI a + 1) &&& 1023 = nI ((a + 1) % 1024) := by
  have : ∀ a : Fin 1024, (nI a.val + 1) &&& 1023 = nI ((a.val + 1) % 1024) := by decide +kernel
  exact fun a ha => this ⟨a, ha⟩
def cE (f : Nat → Int32) (m : Nat) : Nat := zfo (fun i a => if f i = -1 then a else a + 1) m 0 0
theorem cE_next (f : Nat → Int32) (m : Nat) : cE f (m + 1) = if f m = -1 then cE f m else cE f m + 1 := by
  unfold cE
  rw [zfo_last, Nat.zero_add]
theorem cE_full {f : Nat → Int32} : ∀ m, (∀ i, i < m → f i ≠ -1) → cE f m = m
  | 0, _ => rfl
  | m + 1, h => by rw [cE_next, if_neg (h m (by omega)), cE_full m fun i hi => h i (by omega)]
theorem cE_zero {f : Nat → Int32} : ∀ m, (∀ i, i < m → f i = -1) → cE f m = 0
  | 0, _ => rfl
  | m + 1, h => by rw [cE_next, if_pos (h m (by omega)), cE_zero m fun i hi => h i (by omega)]
theorem cE_put {f : Nat → Int32} {t : Nat} {x : Int32} (hx : x ≠ -1) (ht : f t = -1) : ∀ m, cE (fun i => if i = t then x else f i) m = if t < m then cE f m + 1 else cE f m
  | 0 => by rw [if_neg (by omega)]; rfl
  | m + 1 => by
    rw [cE_next, cE_next, cE_put hx ht m]
    by_cases q : m = t
    · subst q
      rw [if_pos rfl, if_neg hx, if_neg (by omega), if_pos (by omega), if_pos ht]
    · rw [if_neg q]
      by_cases r : t < m
      · rw [if_pos r, if_pos (show t < m + 1 by omega)]
        split <;> rfl
      · rw [if_neg r, if_neg (show ¬ t < m + 1 by omega)]
def cHs (s : Option (List Int32)) (D : zD) : Prop := match s with
  | some l => gI D 22 6 = 0 ∧ l.length ≤ 500 ∧ cL 24 l D ∧ (∀ x, x ∈ l → x ≠ -1) ∧ (∀ t, t < 1024 → gI D 26 t = -1 ∨ gI D 26 t ∈ l) ∧
      (∀ x, x ∈ l → ∃ d, d < 1024 ∧ gI D 26 ((hsh x + d) % 1024) = x ∧ ∀ e, e < d → gI D 26 ((hsh x + e) % 1024) ≠ -1) ∧ cE (gI D 26) 1024 = l.length
  | none => gI D 22 6 = 1 ∧ ∃ c, c ≤ 500 ∧ gI D 24 1 = nI c
def pAo (a b : Nat) : Prop := ¬ (a = 22 ∧ b = 6) ∧ ¬ (a = 24 ∧ b = 1) ∧ a ≠ 25 ∧ a ≠ 26
theorem c_add {a : Nat} (h : cL a l D) (hl : l.length ≤ 500) (x : Int32) : (l.length < 500 ∧ fn_X3_add a x D = some (1, sI (sI D (a + 1) l.length x) a 1 (nI (l.length + 1)))) ∨ (l.length = 500 ∧ fn_X3_add a x D = some (0, D)) := by
  unfold fn_X3_add
  rw [h.1, if_neg (nI_pos (by omega))]
  have e5 : nI l.length < (500 : Int32) ↔ l.length < 500 := nLt l.length 500 (by omega) (by omega)
  by_cases q : l.length < 500
  · left
    rw [if_pos (e5.mpr q), zck_nI q (by omega), nI_clamp (by omega), zlet_eq, gI_na (by omega), h.1, nI_1, zlet_eq]
    exact ⟨q, rfl⟩
  · right
    rw [if_neg (fun r => q (e5.mp r))]
    exact ⟨by omega, rfl⟩
theorem cL_app {a : Nat} (h : cL a l D) : cL a (l ++ [x]) (sI (sI D (a + 1) l.length x) a 1 (nI (l.length + 1))) := by
  refine ⟨by rw [gI_eq, len_app], fun i hi => ?_⟩
  rw [len_app] at hi
  rw [gI_na (by omega)]
  by_cases t : i = l.length
  · rw [t, gI_eq, gD_app2]
  · rw [gI_nb t, gD_app1 (by omega), h.2 i (by omega)]
theorem c_addOnce (h : cHs (some l) D) (hx : x ≠ -1) : zok (fn_X7_addOnce x D) fun E => cHs (stp (some l) x) E ∧ ag pAo D E := by
  obtain ⟨h1, h2, h3, h4, h5, h6, h7⟩ := h
  have hh := hsh_lt x
  unfold fn_X7_addOnce
  rw [zlet_eq, show ((zushr (x * (-1640531535 : Int32)) (22 : Int32)) &&& (1023 : Int32)) = nI (hsh x) from (nI_un _).symm]
  generalize hN : zff (fun d => decide (gI D 26 ((hsh x + d) % 1024) = x) || decide (gI D 26 ((hsh x + d) % 1024) = -1)) 1024 0 = N
  have hNle : N ≤ 1024 := by have := (zff_le (fun d => decide (gI D 26 ((hsh x + d) % 1024) = x) || decide (gI D 26 ((hsh x + d) % 1024) = -1)) 1024 0).2; omega
  have hno : ∀ d, d < N → gI D 26 ((hsh x + d) % 1024) ≠ x ∧ gI D 26 ((hsh x + d) % 1024) ≠ -1 := fun d hd => by
    have := zff_no (fun d => decide (gI D 26 ((hsh x + d) % 1024) = x) || decide (gI D 26 ((hsh x + d) % 1024) = -1)) 1024 0 d (Nat.zero_le _) (by rw [hN]; exact hd)
    simpa using this
  have hlt : N < 1024 := by
    rcases Nat.lt_or_ge N 1024 with g | g
    · exact g
    · exfalso
      have : cE (gI D 26) 1024 = 1024 := cE_full 1024 fun t ht => by
        have := (hno ((t + 1024 - hsh x) % 1024) (by omega)).2
        rw [show (hsh x + (t + 1024 - hsh x) % 1024) % 1024 = t by omega] at this
        exact this
      omega
  have hyes := zff_yes (fun d => decide (gI D 26 ((hsh x + d) % 1024) = x) || decide (gI D 26 ((hsh x + d) % 1024) = -1)) 1024 0 (by rw [hN]; omega)
  rw [hN] at hyes
  replace hyes : gI D 26 ((hsh x + N) % 1024) = x ∨ gI D 26 ((hsh x + N) % 1024) = -1 := by simpa using hyes
  clear hN
  show zok (fn_X7_addOnce_14 x zFU (nI (hsh x)) 0 D) _
  rw [show hsh x = (hsh x + 0) % 1024 by omega]
  refine z_inv N (fun m i (_ : Unit) => fn_X7_addOnce_14 x m (nI ((hsh x + i) % 1024)) (nI i) D) (fun i _ => True) _ ?_ ?_ 0 zFU () (Nat.zero_le _) (zfu_gt (by omega)) trivial
  · intro m i _ hi _ ih
    show zok (fn_X7_addOnce_14 x (m + 1) (nI ((hsh x + i) % 1024)) (nI i) D) _
    have hn := hno i hi
    have hm := Nat.mod_lt (hsh x + i) (show 0 < 1024 by omega)
    rw [fn_X7_addOnce_14, if_neg (show ¬ (1024 : Int32) ≤ nI i from nI_ge (a := i) (b := 1024) (by omega) (by omega)), zck_nI (by omega) (by omega), nI_clamp (by omega), if_neg hn.1, zck_nI (by omega) (by omega), if_neg hn.2, zlet_eq, nx_1023 _ hm, show ((hsh x + i) % 1024 + 1) % 1024 = (hsh x + (i + 1)) % 1024 by omega, nI_1]
    exact ih () trivial
  · intro m _ _
    show zok (fn_X7_addOnce_14 x (m + 1) (nI ((hsh x + N) % 1024)) (nI N) D) _
    have hm := Nat.mod_lt (hsh x + N) (show 0 < 1024 by omega)
    rw [fn_X7_addOnce_14, if_neg (show ¬ (1024 : Int32) ≤ nI N from nI_ge (a := N) (b := 1024) (by omega) (by omega)), zck_nI (by omega) (by omega), nI_clamp (by omega)]
    by_cases q : gI D 26 ((hsh x + N) % 1024) = x
    · have hxl : x ∈ l := by
        rcases h5 _ hm with g | g
        · exact absurd (q.symm.trans g) hx
        · rw [q] at g; exact g
      rw [if_pos q, zok_some, stp_in hxl]
      exact ⟨⟨h1, h2, h3, h4, h5, h6, h7⟩, ag.refl⟩
    · have q2 : gI D 26 ((hsh x + N) % 1024) = -1 := by rcases hyes with g | g; exact absurd g q; exact g
      have hxl : ¬ x ∈ l := fun hxl => by
        obtain ⟨d, d1, d2, d3⟩ := h6 x hxl
        rcases Nat.lt_trichotomy N d with g | g | g
        · exact d3 N g q2
        · rw [g] at q; exact q d2
        · exact (hno d g).1 d2
      rw [if_neg q, zck_nI hm (by omega), if_pos q2]
      unfold fn_X7_addOnce_42
      rw [zck_nI hm (by omega), nI_clamp (by omega), zlet_eq]
      generalize ht : (hsh x + N) % 1024 = t at *
      have hc : cL 24 l (sI D 26 t x) := ⟨by rw [gI_na (by omega)]; exact h3.1, fun i hi => by rw [gI_na (by omega)]; exact h3.2 i hi⟩
      have e22 : gI (sI D 26 t x) 22 6 = 0 := by rw [gI_na (by omega)]; exact h1
      rw [e22]
      rcases c_add hc h2 x with ⟨g1, g2⟩ | ⟨g1, g2⟩
      · rw [g2, Option.bind_some, if_neg (show ¬ (1 : Int32) = 0 by decide), show (0 : Int32) ||| 0 = 0 from rfl, zcb_0, zlet_eq, zok_some, stp_new hxl g1]
        have e26 : ∀ i, gI (sI (sI (sI (sI D 26 t x) (24 + 1) l.length x) 24 1 (nI (l.length + 1))) 22 6 0) 26 i = if i = t then x else gI D 26 i := fun i => by
          rw [gI_na (by omega), gI_na (by omega), gI_na (by omega)]
          by_cases r : i = t
          · rw [if_pos r, r, gI_eq]
          · rw [if_neg r, gI_nb r]
        refine ⟨⟨gI_eq, by rw [len_app]; omega, ?_, ?_, ?_, ?_, ?_⟩, (((ag.refl.sI (by unfold pAo; omega)).sI (by unfold pAo; omega)).sI (by unfold pAo; omega)).sI (by unfold pAo; omega)⟩
        · have := cL_app (x := x) hc
          exact ⟨by rw [gI_na (by omega)]; exact this.1, fun i hi => by rw [gI_na (by omega)]; exact this.2 i hi⟩
        · intro y hy
          rcases List.mem_append.mp hy with g | g
          · exact h4 y g
          · rw [List.mem_singleton.mp g]; exact hx
        · intro i hi
          rw [e26]
          by_cases r : i = t
          · rw [if_pos r]; exact Or.inr (List.mem_append.mpr (Or.inr (List.mem_singleton.mpr rfl)))
          · rw [if_neg r]
            rcases h5 i hi with g | g
            · exact Or.inl g
            · exact Or.inr (List.mem_append.mpr (Or.inl g))
        · intro y hy
          rcases List.mem_append.mp hy with g | g
          · obtain ⟨d, d1, d2, d3⟩ := h6 y g
            refine ⟨d, d1, ?_, fun e he => ?_⟩
            · rw [e26, if_neg (fun r => h4 y g (by rw [← d2, r]; exact q2)), d2]
            · rw [e26]
              by_cases r : (hsh y + e) % 1024 = t
              · rw [if_pos r]; exact hx
              · rw [if_neg r]; exact d3 e he
          · rw [List.mem_singleton.mp g]
            refine ⟨N, hlt, by rw [e26, if_pos ht], fun e he => ?_⟩
            rw [e26]
            by_cases r : (hsh x + e) % 1024 = t
            · rw [if_pos r]; exact hx
            · rw [if_neg r]; exact (hno e he).2
        · show cE (gI (sI (sI (sI (sI D 26 t x) (24 + 1) l.length x) 24 1 (nI (l.length + 1))) 22 6 0) 26) 1024 = _
          rw [len_app, show gI (sI (sI (sI (sI D 26 t x) (24 + 1) l.length x) 24 1 (nI (l.length + 1))) 22 6 0) 26 = fun i => if i = t then x else gI D 26 i from funext e26, cE_put hx q2, if_pos hm, h7]
      · rw [g2, Option.bind_some, if_pos rfl, show (0 : Int32) ||| 1 = 1 from rfl, zcb_1, zlet_eq, zok_some, stp_full hxl (by omega)]
        exact ⟨⟨gI_eq, l.length, h2, by rw [gI_na (by omega)]; exact hc.1⟩, (ag.refl.sI (by unfold pAo; omega)).sI (by unfold pAo; omega)⟩
end M9r
