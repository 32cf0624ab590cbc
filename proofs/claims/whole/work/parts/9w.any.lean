/-! THE MATHEMATICS: any cells, both -/
def rAny (N : Nat) : Nat → Nat → Int32 → Option (List Int32) → Option (List Int32)
  | 0, _, mask, s => stp s mask
  | k + 1, first, mask, s => zfo (fun v s => rAny N k (v + 1) (mask ||| bit1 v) s) (N - first) first s
def msk (k a b c : Nat) : Int32 := ((if k ≤ 0 then 0 else bit1 a) ||| (if k ≤ 1 then 0 else bit1 b)) ||| (if k ≤ 2 then 0 else bit1 c)
def vld (k N a b c : Nat) : Prop := (k ≤ 0 → a = 0) ∧ (¬ k ≤ 0 → a < N) ∧ (k ≤ 1 → b = 0) ∧ (¬ k ≤ 1 → a < b ∧ b < N) ∧ (k ≤ 2 → c = 0) ∧ (¬ k ≤ 2 → b < c ∧ c < N)
def lexl (a b c x y z : Nat) : Prop := a < x ∨ (a = x ∧ (b < y ∨ (b = y ∧ c < z)))
def ivA (k N : Nat) (s : Option (List Int32)) (x y z : Nat) : Prop := ∀ l, s = some l → ∀ m, m ∈ l → ∃ a b c, vld k N a b c ∧ m = msk k a b c ∧ lexl a b c x y z
def gAny (k N : Nat) (s : Option (List Int32)) : Option (List Int32) :=
  zfo (fun a s => zfo (fun b s => zfo (fun c s => stp s (msk k a b c)) ((if k ≤ 2 then 1 else N) - (if k ≤ 2 then 0 else b + 1)) (if k ≤ 2 then 0 else b + 1) s) ((if k ≤ 1 then 1 else N) - (if k ≤ 1 then 0 else a + 1)) (if k ≤ 1 then 0 else a + 1) s) (if k ≤ 0 then 1 else N) 0 s
section M9w
variable {D : zD} {W h N k a : Nat} {s : Option (List Int32)}
theorem rAny_none : ∀ (k first : Nat) (mask : Int32), rAny N k first mask none = none
  | 0, _, _ => rfl
  | k + 1, first, mask => zfo_none (fun i => rAny_none k _ _) _ _
theorem gAny_r (hk : k ≤ 3) : gAny k N s = rAny N k 0 0 s := by
  rcases (show k = 0 ∨ k = 1 ∨ k = 2 ∨ k = 3 by omega) with rfl | rfl | rfl | rfl
  · rfl
  · show zfo (fun a s => stp s ((bit1 a ||| 0) ||| 0)) N 0 s = zfo (fun v s => stp s (0 ||| bit1 v)) (N - 0) 0 s
    exact zfo_cong fun v s _ _ => by rw [Int32.or_zero, Int32.or_zero, Int32.zero_or]
  · show zfo (fun a s => zfo (fun b s => stp s ((bit1 a ||| bit1 b) ||| 0)) (N - (a + 1)) (a + 1) s) N 0 s = zfo (fun v s => zfo (fun w s => stp s ((0 ||| bit1 v) ||| bit1 w)) (N - (v + 1)) (v + 1) s) (N - 0) 0 s
    exact zfo_cong fun v s _ _ => zfo_cong fun w s _ _ => by rw [Int32.or_zero, Int32.zero_or]
  · show zfo (fun a s => zfo (fun b s => zfo (fun c s => stp s ((bit1 a ||| bit1 b) ||| bit1 c)) (N - (b + 1)) (b + 1) s) (N - (a + 1)) (a + 1) s) N 0 s = zfo (fun v s => zfo (fun w s => zfo (fun x s => stp s (((0 ||| bit1 v) ||| bit1 w) ||| bit1 x)) (N - (w + 1)) (w + 1) s) (N - (v + 1)) (v + 1) s) (N - 0) 0 s
    exact zfo_cong fun v s _ _ => zfo_cong fun w s _ _ => zfo_cong fun x s _ _ => by rw [Int32.zero_or]
theorem r_any (h4 : gI D 102 14 = nI W) (h5 : gI D 102 15 = nI h) (hW : W ≤ 6) (hh : h ≤ 5) : ∀ (k fuel first : Nat) (mask : Int32) (s : Option (List Int32)) (E : zD), k < fuel → k ≤ 3 → first ≤ W * h → rM s E → agL pMk D E → zok (fn_X12_anyOfR fuel (nI first) (nI k) mask E) fun F => rM (rAny (W * h) k first mask s) F ∧ agL pMk D F
  | 0, fuel, first, mask, s, E, hf, _, _, hM, g => by
    obtain ⟨fuel, rfl⟩ : ∃ x, fuel = x + 1 := ⟨fuel - 1, by omega⟩
    rw [fn_X12_anyOfR]
    unfold fn_X12_anyOf
    rw [if_pos (show nI 0 = 0 from rfl), bsm]
    exact (r_makes hM mask).mono fun F ⟨f1, f2⟩ => ⟨f1, g.trans f2⟩
  | k + 1, fuel, first, mask, s, E, hf, hk, hfi, hM, g => by
    obtain ⟨fuel, rfl⟩ : ∃ x, fuel = x + 1 := ⟨fuel - 1, by omega⟩
    have h30 := wh_le hW hh
    rw [fn_X12_anyOfR]
    unfold fn_X12_anyOf
    rw [if_neg (show ¬ nI (k + 1) = 0 from nI_ne0 (by omega) (by omega)), rAny]
    have hcl : ∀ {F : zD}, agL pMk D F → fn_X12_cells F = some (nI (W * h)) := fun {F} gF => by
      unfold fn_X12_cells
      rw [gF.1 _ _ (by unfold pMk; omega), gF.1 _ _ (by unfold pMk; omega), h4, h5, pk_mul]
    refine z_inv (W * h) (fun n i (F : zD) => fn_X12_anyOf_13 (fn_X12_anyOfR fuel) (nI first) (nI (k + 1)) mask n (nI i) F) (fun i F => first ≤ i ∧ rM (zfo (fun v s => rAny (W * h) k (v + 1) (mask ||| bit1 v) s) (i - first) first s) F ∧ agL pMk D F) _ ?_ ?_ first zFU E hfi (by unfold zFU; omega) ⟨Nat.le_refl _, by rw [Nat.sub_self]; exact hM, g⟩
    · intro n i F hi ⟨f0, f1, f2⟩ ih
      show zok (fn_X12_anyOf_13 (fn_X12_anyOfR fuel) (nI first) (nI (k + 1)) mask (n + 1) (nI i) F) _
      have nx := zfo_last (fun v s => rAny (W * h) k (v + 1) (mask ||| bit1 v) s) (i - first) first s
      rw [show i - first + 1 = i + 1 - first by omega, show first + (i - first) = i by omega] at nx
      rw [fn_X12_anyOf_13, hcl f2, Option.bind_some, if_neg (nI_ge hi (by omega))]
      by_cases q : zfo (fun v s => rAny (W * h) k (v + 1) (mask ||| bit1 v) s) (i - first) first s = none
      · rw [q] at f1
        rw [if_neg (show ¬ gI F 102 33 = 0 by rw [f1.1]; decide), zok_some]
        have z : ∀ m, i - first ≤ m → zfo (fun v s => rAny (W * h) k (v + 1) (mask ||| bit1 v) s) m first s = none := by
          intro m
          induction m with
          | zero => intro hm; rw [show i - first = 0 by omega] at q; exact q
          | succ m ihm =>
            intro hm
            by_cases t : i - first = m + 1
            · rw [← t]; exact q
            · rw [zfo_last, ihm (by omega)]; exact rAny_none _ _ _
        rw [z _ (by omega)]
        exact ⟨f1, f2⟩
      · obtain ⟨l, hl⟩ := Option.ne_none_iff_exists'.mp q
        have f1' := f1
        rw [hl] at f1'
        rw [if_pos f1'.1, nI_1, show nI (k + 1) - 1 = nI k from nI_pred k, bit1_u]
        refine (r_any h4 h5 hW hh k fuel (i + 1) (mask ||| bit1 i) _ F (by omega) (by omega) (by omega) f1 f2).bind fun G ⟨g1, g2⟩ => ih G ⟨by omega, ?_, g2⟩
        rw [nx]
        exact g1
    · intro n F ⟨f0, f1, f2⟩
      show zok (fn_X12_anyOf_13 (fn_X12_anyOfR fuel) (nI first) (nI (k + 1)) mask (n + 1) (nI (W * h)) F) _
      rw [fn_X12_anyOf_13, hcl f2, Option.bind_some, if_pos (nI_le (Nat.le_refl _) (by omega)), zok_some]
      exact ⟨f1, f2⟩
theorem bt_msk {a b c i : Nat} (hN : N ≤ 30) (v : vld k N a b c) (hi : i < 32) : bt (msk k a b c) i = decide ((¬ k ≤ 0 ∧ i = a) ∨ (¬ k ≤ 1 ∧ i = b) ∨ (¬ k ≤ 2 ∧ i = c)) := by
  obtain ⟨v1, v2, v3, v4, v5, v6⟩ := v
  unfold msk
  rw [b_or, b_or]
  have e : ∀ (j x : Nat), (¬ k ≤ j → x < 30) → bt (if k ≤ j then 0 else bit1 x) i = decide (¬ k ≤ j ∧ i = x) := fun j x hx => by
    by_cases q : k ≤ j
    · rw [if_pos q, b_0, decide_eq_false (fun r => r.1 q)]
    · rw [if_neg q, bt_bit1 _ (by have := hx q; omega) _ hi]
      apply decide_eq_decide.mpr
      exact ⟨fun r => ⟨q, r⟩, fun r => r.2⟩
  rw [e 0 a (fun q => by have := v2 q; omega), e 1 b (fun q => by have := v4 q; omega), e 2 c (fun q => by have := v6 q; omega), ← Bool.decide_or, ← Bool.decide_or]
  apply decide_eq_decide.mpr
  rw [or_assoc]
theorem msk_inj {a b c x y z : Nat} (hN : N ≤ 30) (v : vld k N a b c) (u : vld k N x y z) (e : msk k a b c = msk k x y z) : ¬ lexl a b c x y z := by
  have key : ∀ i, i < 32 → (((¬ k ≤ 0 ∧ i = a) ∨ (¬ k ≤ 1 ∧ i = b) ∨ (¬ k ≤ 2 ∧ i = c)) ↔ ((¬ k ≤ 0 ∧ i = x) ∨ (¬ k ≤ 1 ∧ i = y) ∨ (¬ k ≤ 2 ∧ i = z))) := fun i hi => by
    have h1 := bt_msk hN v hi
    have h2 := bt_msk hN u hi
    rw [e, h2] at h1
    exact (decide_eq_decide.mp h1).symm
  obtain ⟨v1, v2, v3, v4, v5, v6⟩ := v
  obtain ⟨u1, u2, u3, u4, u5, u6⟩ := u
  have fa : ¬ k ≤ 0 → a < 30 ∧ x < 30 := fun q => ⟨by have := v2 q; omega, by have := u2 q; omega⟩
  have fb : ¬ k ≤ 1 → b < 30 ∧ y < 30 := fun q => ⟨by have := v4 q; omega, by have := u4 q; omega⟩
  have fc : ¬ k ≤ 2 → c < 30 ∧ z < 30 := fun q => ⟨by have := v6 q; omega, by have := u6 q; omega⟩
  have ka : ¬ k ≤ 0 → a = x ∨ (¬ k ≤ 1 ∧ a = y) ∨ (¬ k ≤ 2 ∧ a = z) := fun q => by
    rcases (key a (by have := fa q; omega)).mp (Or.inl ⟨q, rfl⟩) with r | r | r
    · exact Or.inl r.2
    · exact Or.inr (Or.inl r)
    · exact Or.inr (Or.inr r)
  have kb : ¬ k ≤ 1 → b = x ∨ b = y ∨ (¬ k ≤ 2 ∧ b = z) := fun q => by
    rcases (key b (by have := fb q; omega)).mp (Or.inr (Or.inl ⟨q, rfl⟩)) with r | r | r
    · exact Or.inl r.2
    · exact Or.inr (Or.inl r.2)
    · exact Or.inr (Or.inr r)
  have kc : ¬ k ≤ 2 → c = x ∨ c = y ∨ c = z := fun q => by
    rcases (key c (by have := fc q; omega)).mp (Or.inr (Or.inr ⟨q, rfl⟩)) with r | r | r
    · exact Or.inl r.2
    · exact Or.inr (Or.inl r.2)
    · exact Or.inr (Or.inr r.2)
  have kx : ¬ k ≤ 0 → x = a ∨ (¬ k ≤ 1 ∧ x = b) ∨ (¬ k ≤ 2 ∧ x = c) := fun q => by
    rcases (key x (by have := fa q; omega)).mpr (Or.inl ⟨q, rfl⟩) with r | r | r
    · exact Or.inl r.2
    · exact Or.inr (Or.inl r)
    · exact Or.inr (Or.inr r)
  have ky : ¬ k ≤ 1 → y = a ∨ y = b ∨ (¬ k ≤ 2 ∧ y = c) := fun q => by
    rcases (key y (by have := fb q; omega)).mpr (Or.inr (Or.inl ⟨q, rfl⟩)) with r | r | r
    · exact Or.inl r.2
    · exact Or.inr (Or.inl r.2)
    · exact Or.inr (Or.inr r)
  have kz : ¬ k ≤ 2 → z = a ∨ z = b ∨ z = c := fun q => by
    rcases (key z (by have := fc q; omega)).mpr (Or.inr (Or.inr ⟨q, rfl⟩)) with r | r | r
    · exact Or.inl r.2
    · exact Or.inr (Or.inl r.2)
    · exact Or.inr (Or.inr r.2)
  clear key e fa fb fc
  have fin : a = x → b = y → c = z → ¬ lexl a b c x y z := fun r1 r2 r3 => by
    clear ka kb kc kx ky kz v1 v2 v3 v4 v5 v6 u1 u2 u3 u4 u5 u6
    unfold lexl
    omega
  by_cases q0 : k ≤ 0
  · have r1 := v1 q0
    have r2 := v3 (by omega)
    have r3 := v5 (by omega)
    have r4 := u1 q0
    have r5 := u3 (by omega)
    have r6 := u5 (by omega)
    exact fin (r1.trans r4.symm) (r2.trans r5.symm) (r3.trans r6.symm)
  by_cases q1 : k ≤ 1
  · have r2 := v3 q1
    have r3 := v5 (by omega)
    have r5 := u3 q1
    have r6 := u5 (by omega)
    refine fin ?_ (r2.trans r5.symm) (r3.trans r6.symm)
    rcases ka q0 with r | r | r
    · exact r
    · exact absurd q1 r.1
    · exact absurd (show k ≤ 2 by omega) r.1
  have o1 := (v4 q1).1
  have o2 := (u4 q1).1
  by_cases q2 : k ≤ 2
  · have r3 := v5 q2
    have r6 := u5 q2
    have g1 : a = x ∨ a = y := by
      rcases ka q0 with r | r | r
      · exact Or.inl r
      · exact Or.inr r.2
      · exact absurd q2 r.1
    have g2 : x = a ∨ x = b := by
      rcases kx q0 with r | r | r
      · exact Or.inl r
      · exact Or.inr r.2
      · exact absurd q2 r.1
    have g3 : b = x ∨ b = y := by
      rcases kb q1 with r | r | r
      · exact Or.inl r
      · exact Or.inr r
      · exact absurd q2 r.1
    clear ka kb kc kx ky kz v1 v2 v3 v4 v5 v6 u1 u2 u3 u4 u5 u6
    exact fin (by omega) (by omega) (by omega)
  · have o3 := (v6 q2).1
    have o4 := (u6 q2).1
    have g1 : a = x ∨ a = y ∨ a = z := by
      rcases ka q0 with r | r | r
      · exact Or.inl r
      · exact Or.inr (Or.inl r.2)
      · exact Or.inr (Or.inr r.2)
    have g2 : x = a ∨ x = b ∨ x = c := by
      rcases kx q0 with r | r | r
      · exact Or.inl r
      · exact Or.inr (Or.inl r.2)
      · exact Or.inr (Or.inr r.2)
    have g3 : b = x ∨ b = y ∨ b = z := by
      rcases kb q1 with r | r | r
      · exact Or.inl r
      · exact Or.inr (Or.inl r)
      · exact Or.inr (Or.inr r.2)
    have g4 : y = a ∨ y = b ∨ y = c := by
      rcases ky q1 with r | r | r
      · exact Or.inl r
      · exact Or.inr (Or.inl r)
      · exact Or.inr (Or.inr r.2)
    have g5 := kc q2
    have g6 := kz q2
    clear ka kb kc kx ky kz v1 v2 v3 v4 v5 v6 u1 u2 u3 u4 u5 u6
    have s1 : a = x := by clear fin g3 g4 g5 g6; omega
    have s2 : b = y := by clear fin g1 g2 g5 g6; omega
    have s3 : c = z := by clear fin g1 g2 g3 g4; omega
    exact fin s1 s2 s3
theorem ivA_up {x y z x' y' z' : Nat} (hs : ivA k N s x y z) (g : ∀ a b c, lexl a b c x y z → lexl a b c x' y' z') : ivA k N s x' y' z' := fun l hl m hm => by
  obtain ⟨a, b, c, v, e, t⟩ := hs l hl m hm
  exact ⟨a, b, c, v, e, g a b c t⟩
theorem ivA_stp {x y z : Nat} (v : vld k N x y z) (hs : ivA k N s x y z) : ivA k N (stp s (msk k x y z)) x y (z + 1) := by
  intro l hl m hm
  cases s with
  | none => cases hl
  | some l0 =>
    have old : m ∈ l0 → ∃ a b c, vld k N a b c ∧ m = msk k a b c ∧ lexl a b c x y (z + 1) := fun hm => by
      obtain ⟨a, b, c, v, e, t⟩ := hs l0 rfl m hm
      exact ⟨a, b, c, v, e, by unfold lexl at *; omega⟩
    by_cases q : msk k x y z ∈ l0
    · rw [stp_in q] at hl; cases hl; exact old hm
    · by_cases r : l0.length < 500
      · rw [stp_new q r] at hl
        cases hl
        rcases List.mem_append.mp hm with g | g
        · exact old g
        · exact ⟨x, y, z, v, List.mem_singleton.mp g, by unfold lexl; omega⟩
      · rw [stp_full q r] at hl; cases hl
theorem ivA_new {x y z : Nat} (hN : N ≤ 30) (v : vld k N x y z) (hs : ivA k N s x y z) : ∀ l, s = some l → ¬ msk k x y z ∈ l := fun l hl hm => by
  obtain ⟨a, b, c, u, e, t⟩ := hs l hl _ hm
  exact msk_inj hN u v e.symm t
/-- the class adds one -/
theorem c_push {k94 : Int32 → Int32 → Int32 → Int32 → Int32 → zD → Option (Int32 × zD)} {v2 v3 v4 v5 v6 w0 w1 : Int32} {Q : Int32 × zD → Prop} (ha : 27 ≤ a) (hV : cV a s D) (hn : ∀ l, s = some l → ¬ (w0 ||| w1) ∈ l)
    (hk : ∀ E, cV a (stp s (w0 ||| w1)) E → ag (fun b c => ¬ (b = 22 ∧ c = 6) ∧ ¬ (b = a ∧ c = 1) ∧ b ≠ a + 1) D E → zok (k94 v2 v3 v4 v5 (v6 + 1) E) Q) : zok (fn_X7_any_148 a k94 v2 v3 v4 v5 v6 w0 w1 D) Q := by
  unfold fn_X7_any_148
  rw [zlet_eq]
  cases s with
  | none =>
    obtain ⟨h1, c, h2, h3⟩ := hV
    obtain ⟨l, l1, l2⟩ := rd_list D (a + 1) c
    have hc : cL a l D := ⟨by rw [l1]; exact h3, by rw [l1]; exact l2⟩
    rcases c_add hc (by omega) (w0 ||| w1) with ⟨g1, g2⟩ | ⟨g1, g2⟩
    · rw [g2, Option.bind_some, if_neg (show ¬ (1 : Int32) = 0 by decide), h1, show (1 : Int32) ||| 0 = 1 from rfl, zcb_1, zlet_eq]
      exact hk _ ⟨gI_eq, l.length + 1, by omega, by rw [gI_na (by omega), gI_eq]⟩ (((ag.refl.sI (by omega)).sI (by omega)).sI (by omega))
    · rw [g2, Option.bind_some, if_pos rfl, h1, show (1 : Int32) ||| 1 = 1 from rfl, zcb_1, zlet_eq]
      exact hk _ ⟨gI_eq, c, h2, by rw [gI_na (by omega), h3]⟩ (ag.refl.sI (by omega))
  | some l =>
    obtain ⟨h1, h2, h3⟩ := hV
    have hx := hn l rfl
    rcases c_add h3 h2 (w0 ||| w1) with ⟨g1, g2⟩ | ⟨g1, g2⟩
    · rw [g2, Option.bind_some, if_neg (show ¬ (1 : Int32) = 0 by decide), h1, show (0 : Int32) ||| 0 = 0 from rfl, zcb_0, zlet_eq]
      refine hk _ ?_ (((ag.refl.sI (by omega)).sI (by omega)).sI (by omega))
      rw [stp_new hx g1]
      have := cL_app (x := w0 ||| w1) h3
      exact ⟨gI_eq, by rw [len_app]; omega, by rw [gI_na (by omega)]; exact this.1, fun i hi => by rw [gI_na (by omega)]; exact this.2 i hi⟩
    · rw [g2, Option.bind_some, if_pos rfl, h1, show (0 : Int32) ||| 1 = 1 from rfl, zcb_1, zlet_eq]
      refine hk _ ?_ (ag.refl.sI (by omega))
      rw [stp_full hx (by omega)]
      exact ⟨gI_eq, l.length, h2, by rw [gI_na (by omega)]; exact h3.1⟩
end M9w
