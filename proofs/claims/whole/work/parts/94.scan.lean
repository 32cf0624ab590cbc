/-! THE MATHEMATICS: reading the tape, as both do; the class -/
def tb (n : Nat) (B : Nat → Int32) (i : Nat) : Int32 := if i < n then B i else -1
def sk (n : Nat) (B : Nat → Int32) (p : Nat) : Nat := zff (fun i => !decide (tb n B i = 32)) (n - p) p
def dgt (x : Int32) : Bool := decide (¬ x < 48 ∧ ¬ 57 < x)
def sml (x : Int32) : Bool := decide (¬ x < 97 ∧ ¬ 122 < x)
def dg (n : Nat) (B : Nat → Int32) (p : Nat) : Nat := zff (fun i => !dgt (tb n B i)) (n - p) p
def lt6 (n : Nat) (B : Nat → Int32) (p : Nat) : Nat := zff (fun i => !sml (tb n B i)) (n - p) p
def vl (n : Nat) (B : Nat → Int32) (p m : Nat) : Nat := zfo (fun i v => min 1000 (10 * v + (un (tb n B i) - 48))) m p 0
def nm (n : Nat) (B : Nat → Int32) (lo H p : Nat) : (Nat × Nat) ⊕ (Nat × Nat) :=
  if dg n B (sk n B p) = sk n B p then .inl (1, sk n B p)
  else if lo ≤ vl n B (sk n B p) (dg n B (sk n B p) - sk n B p) ∧ vl n B (sk n B p) (dg n B (sk n B p) - sk n B p) < H then .inr (vl n B (sk n B p) (dg n B (sk n B p) - sk n B p), dg n B (sk n B p))
  else .inl (2, sk n B p)
def pCs (a b : Nat) : Prop := ¬ (a = 2 ∧ 2 ≤ b ∧ b ≤ 4)
def cB (n : Nat) (B : Nat → Int32) (D : zD) : Prop := n ≤ 500 ∧ gI D 2 1 = nI n ∧ ∀ i, i < n → (gI D 1 i).toInt8.toInt32 = gI D 1 i ∧ gI D 1 i &&& 255 = B i
def cS (n : Nat) (B : Nat → Int32) (p : Nat) (D : zD) : Prop := cB n B D ∧ p ≤ n ∧ gI D 2 2 = nI p ∧ gI D 2 3 = 0 ∧ gI D 2 4 = -1
def cF (f : Nat × Nat) (D : zD) : Prop := gI D 2 3 = nI f.1 ∧ gI D 2 4 = nI f.2
section M94
variable {D : zD} {n p : Nat} {B : Nat → Int32}
theorem cB.keep {E : zD} (h : cB n B D) (g : ag pCs D E) : cB n B E := ⟨h.1, by rw [g _ _ (by unfold pCs; omega)]; exact h.2.1, fun i hi => by rw [g _ _ (by unfold pCs; omega)]; exact h.2.2 i hi⟩
theorem cB_lt (h : cB n B D) {i : Nat} (hi : i < n) : ∃ b, b < 256 ∧ B i = nI b := by
  obtain ⟨_, h2⟩ := h.2.2 i hi
  refine ⟨un (B i), ?_, (nI_un _).symm⟩
  rw [← h2]
  have : un (gI D 1 i &&& 255) < 2 ^ 8 := by
    rw [un_iff (by omega)]
    intro j h1 h3
    rw [b_and, b_255, decide_eq_false (by omega), Bool.and_false]
  exact this
theorem by_32 : ∀ v : Fin 256, ((nI v.val).toInt8.toInt32 = 32 ↔ nI v.val = 32) := by decide +kernel
theorem raw_32 {x : Int32} (h : x.toInt8.toInt32 = x) : x = 32 ↔ x &&& 255 = 32 := by
  constructor
  · rintro rfl; rfl
  · intro e
    have h2 := fa_byte_low x
    rw [e] at h2
    rw [← h, ← h2]
    rfl
theorem sk_le (hp : p ≤ n) : p ≤ sk n B p ∧ sk n B p ≤ n := by
  have := zff_le (fun i => !decide (tb n B i = 32)) (n - p) p
  unfold sk
  omega
theorem dg_le (hp : p ≤ n) : p ≤ dg n B p ∧ dg n B p ≤ n := by
  have := zff_le (fun i => !dgt (tb n B i)) (n - p) p
  unfold dg
  omega
theorem lt6_le (hp : p ≤ n) : p ≤ lt6 n B p ∧ lt6 n B p ≤ n := by
  have := zff_le (fun i => !sml (tb n B i)) (n - p) p
  unfold lt6
  omega
theorem sk_no {i : Nat} (h1 : p ≤ i) (h2 : i < sk n B p) : tb n B i = 32 := by
  have := zff_no _ _ _ i h1 h2
  simpa using this
theorem sk_yes (h : sk n B p < n) : tb n B (sk n B p) ≠ 32 := by
  have h0 := zff_le (fun i => !decide (tb n B i = 32)) (n - p) p
  have := zff_yes (fun i => !decide (tb n B i = 32)) (n - p) p (by unfold sk at h; omega)
  simpa [sk] using this
theorem dg_no {i : Nat} (h1 : p ≤ i) (h2 : i < dg n B p) : dgt (tb n B i) = true := by
  have := zff_no _ _ _ i h1 h2
  simpa using this
theorem dg_yes (h : dg n B p < n) : dgt (tb n B (dg n B p)) = false := by
  have h0 := zff_le (fun i => !dgt (tb n B i)) (n - p) p
  have := zff_yes (fun i => !dgt (tb n B i)) (n - p) p (by unfold dg at h; omega)
  simpa [dg] using this
theorem tb_in {i : Nat} (h : i < n) : tb n B i = B i := if_pos h
theorem tb_out {i : Nat} (h : n ≤ i) : tb n B i = -1 := if_neg (by omega)
theorem c_next (h : cS n B p D) : zok (fn_X8_next D) fun q => q.1 = nI (sk n B p) ∧ cS n B (sk n B p) q.2 ∧ ag pCs D q.2 := by
  obtain ⟨hB, hp, h2, h3, h4⟩ := h
  have hs := sk_le (B := B) hp
  have h500 := hB.1
  unfold fn_X8_next
  refine z_inv (sk n B p) (fun m i (E : zD) => fn_X8_next_0 m E) (fun i E => p ≤ i ∧ cS n B i E ∧ ag pCs D E) _ ?_ ?_ p zFU D hs.1 (by unfold zFU; omega) ⟨Nat.le_refl _, ⟨hB, hp, h2, h3, h4⟩, ag.refl⟩
  · intro m i E hi ⟨g0, ⟨g1, g2, g3, g4, g5⟩, g6⟩ ih
    show zok (fn_X8_next_0 (m + 1) E) _
    have hin : i < n := by omega
    have hb := sk_no g0 hi
    rw [tb_in hin] at hb
    have hr := raw_32 (g1.2.2 i hin).1
    rw [(g1.2.2 i hin).2] at hr
    rw [fn_X8_next_0, g3, if_neg (nI_pos (by omega)), g1.2.1, if_neg (nI_ge hin (by omega)), if_neg (show ¬ Int32.ofNat 500 ≤ nI i from nI_ge (b := 500) (by omega) (by omega)), zck_nI (by omega) (by omega), nI_clamp (by omega), if_pos (hr.mpr hb), zlet_eq, nI_1]
    have hg : ag pCs D (sI E 2 2 (nI (i + 1))) := g6.sI (by unfold pCs; omega)
    exact ih _ ⟨by omega, ⟨hB.keep hg, by omega, gI_eq, by rw [gI_nb (by omega), g4], by rw [gI_nb (by omega), g5]⟩, hg⟩
  · intro m E ⟨g0, ⟨g1, g2, g3, g4, g5⟩, g6⟩
    show zok (fn_X8_next_0 (m + 1) E) _
    have fin : zok (some ((gI E 2 2, E) : Int32 × zD)) fun q => q.1 = nI (sk n B p) ∧ cS n B (sk n B p) q.2 ∧ ag pCs D q.2 := zok_some.mpr ⟨g3, ⟨g1, g2, g3, g4, g5⟩, g6⟩
    rw [g3] at fin
    rw [fn_X8_next_0, g3, if_neg (nI_pos (by omega)), g1.2.1]
    by_cases q : n ≤ sk n B p
    · rw [if_pos (nI_le q (by omega))]; exact fin
    · have hin : sk n B p < n := by omega
      have hb := sk_yes hin
      rw [tb_in hin] at hb
      have hr := raw_32 (g1.2.2 _ hin).1
      rw [(g1.2.2 _ hin).2] at hr
      rw [if_neg (nI_ge hin (by omega)), if_neg (show ¬ Int32.ofNat 500 ≤ nI (sk n B p) from nI_ge (b := 500) (by omega) (by omega)), zck_nI (by omega) (by omega), nI_clamp (by omega), if_neg (fun e => hb (hr.mp e))]
      exact fin
theorem c_byteAt (h : cB n B D) {i : Nat} (hi : i < 100000) : fn_X8_byteAt (nI i) D = some (tb n B i) := by
  have h500 := h.1
  unfold fn_X8_byteAt
  rw [if_neg (nI_pos (by omega)), h.2.1]
  by_cases q : i < n
  · rw [if_neg (nI_ge q (by omega)), if_pos (show nI i < Int32.ofNat 500 from nI_lt (b := 500) (by omega) (by omega)), zck_nI (by omega) (by omega), nI_clamp (by omega), (h.2.2 i q).2, tb_in q]
  · rw [if_pos (nI_le (by omega) (by omega)), tb_out (by omega)]
theorem c_blame (h : cS n B p D) (k pl : Nat) : zok (fn_X8_blame (nI k) (nI pl) D) fun q => q.1 = 0 ∧ cF (k, pl) q.2 ∧ ag pCs D q.2 := by
  unfold fn_X8_blame
  rw [h.2.2.2.1, if_pos rfl, zlet_eq, zlet_eq, zok_some]
  exact ⟨rfl, ⟨by rw [gI_nb (by omega), gI_eq], gI_eq⟩, (ag.refl.sI (by unfold pCs; omega)).sI (by unfold pCs; omega)⟩
theorem dgt_un {n : Nat} {B : Nat → Int32} (h : cB n B D) {i : Nat} (hi : i < n) (hd : dgt (tb n B i) = true) : ∃ b, 48 ≤ b ∧ b ≤ 57 ∧ tb n B i = nI b := by
  obtain ⟨b, b1, b2⟩ := cB_lt h hi
  rw [tb_in hi, b2] at hd ⊢
  unfold dgt at hd
  rw [decide_eq_true_eq, show (48 : Int32) = nI 48 from rfl, show (57 : Int32) = nI 57 from rfl, nLt _ _ (by omega) (by omega), nLt _ _ (by omega) (by omega)] at hd
  exact ⟨b, by omega, by omega, rfl⟩
theorem vl_next (p m : Nat) : vl n B p (m + 1) = min 1000 (10 * vl n B p m + (un (tb n B (p + m)) - 48)) := by
  unfold vl
  rw [zfo_last]
theorem vl_le (p : Nat) : ∀ m, vl n B p m ≤ 1000
  | 0 => Nat.zero_le _
  | m + 1 => by rw [vl_next]; exact Nat.min_le_left _ _
theorem c_numberOf (h : cS n B p D) {lo H : Nat} (hlo : lo ≤ 1000) (hH : H ≤ 1000) : zok (fn_X8_number (nI lo) (nI H - 1) D) fun q => ag pCs D q.2 ∧ ((∃ f, nm n B lo H p = .inl f ∧ q.1 = -1 ∧ cF f q.2) ∨ ∃ v e, nm n B lo H p = .inr (v, e) ∧ v < H ∧ q.1 = nI v ∧ cS n B e q.2) := by
  have h500 := h.1.1
  unfold fn_X8_number
  refine (c_next h).bind fun q ⟨q1, q2, q3⟩ => ?_
  rw [q1]
  have hsk := sk_le (B := B) h.2.1
  have hdg := dg_le (B := B) hsk.2
  unfold nm
  generalize hs : sk n B p = s at *
  generalize he : dg n B s = e at *
  have hvl : ∀ m, vl n B s m ≤ 1000 := vl_le s
  have eM : ∀ x, x ≤ 1000 → (nI x ≤ nI H - 1 ↔ x < H) := fun x hx => by
    rcases Nat.eq_zero_or_pos H with g | g
    · subst g
      rw [show nI 0 - 1 = -1 from rfl, nLm1 _ (by omega)]
      exact ⟨fun r => r.elim, fun r => absurd r (Nat.not_lt_zero _)⟩
    · rw [nS1 _ g, nLe _ _ (by omega) (by omega)]; omega
  refine z_inv e (fun m i (t : Int32 × zD) => fn_X8_number_8 (nI lo) (nI H - 1) m (nI s) t.1 t.2) (fun i t => s ≤ i ∧ t.1 = nI (vl n B s (i - s)) ∧ cS n B i t.2 ∧ ag pCs D t.2) _ ?_ ?_ s zFU ((0 : Int32), q.2) hdg.1 (by unfold zFU; omega) ⟨Nat.le_refl _, by rw [Nat.sub_self]; rfl, q2, q3⟩
  · intro m i ⟨v, E⟩ hi ⟨g0, g1, ⟨g2, g3, g4, g5, g6⟩, g7⟩ ih
    show zok (fn_X8_number_8 (nI lo) (nI H - 1) (m + 1) (nI s) v E) _
    replace g1 : v = nI (vl n B s (i - s)) := g1
    replace g4 : gI E 2 2 = nI i := g4
    replace g7 : ag pCs D E := g7
    have hin : i < n := by omega
    have hd := dg_no g0 (by rw [he]; exact hi)
    obtain ⟨b, b1, b2, b3⟩ := dgt_un h.1 hin hd
    have hvi := hvl (i - s)
    rw [fn_X8_number_8, g2.2.1, g4, if_neg (nI_ge hin (by omega)), c_byteAt g2 (by omega), Option.bind_some, b3, if_neg (show ¬ nI b < (48 : Int32) by rw [show (48 : Int32) = nI 48 from rfl, nLt _ _ (by omega) (by omega)]; omega), Option.bind_some, if_neg (show ¬ (57 : Int32) < nI b by rw [show (57 : Int32) = nI 57 from rfl, nLt _ _ (by omega) (by omega)]; omega), Option.bind_some, g1, show nI (vl n B s (i - s)) * (10 : Int32) = nI (vl n B s (i - s) * 10) from pk_mul _ 10, nI_add, show nI (vl n B s (i - s) * 10 + b) - (48 : Int32) = nI (vl n B s (i - s) * 10 + b - 48) from pk_sub (b := 48) (by omega), show (1000 : Int32) = nI 1000 from rfl, zmn_n _ _ (by omega) (by omega), zlet_eq, zlet_eq, nI_1]
    have hg : ag pCs D (sI E 2 2 (nI (i + 1))) := g7.sI (by unfold pCs; omega)
    refine ih (nI (min 1000 (vl n B s (i - s) * 10 + b - 48)), sI E 2 2 (nI (i + 1))) ⟨by omega, ?_, ⟨g2.keep ((ag.refl (D := E)).sI (by unfold pCs; omega)), by omega, gI_eq, by rw [gI_nb (by omega)]; exact g5, by rw [gI_nb (by omega)]; exact g6⟩, hg⟩
    show nI (min 1000 (vl n B s (i - s) * 10 + b - 48)) = nI (vl n B s (i + 1 - s))
    rw [show i + 1 - s = i - s + 1 by omega, vl_next, show s + (i - s) = i by omega, b3, un_nI (by omega)]
    congr 2
    omega
  · intro m ⟨v, E⟩ ⟨g0, g1, hcS, g7⟩
    obtain ⟨g2, g3, g4, g5, g6⟩ := hcS
    replace g1 : v = nI (vl n B s (e - s)) := g1
    replace g4 : gI E 2 2 = nI e := g4
    replace g7 : ag pCs D E := g7
    show zok (fn_X8_number_8 (nI lo) (nI H - 1) (m + 1) (nI s) v E) _
    have hve := hvl (e - s)
    have fin : zok (fn_X8_number_83 (nI lo) (nI H - 1) (nI s) v E) fun q => ag pCs D q.2 ∧ ((∃ f, (if e = s then Sum.inl (1, s) else if lo ≤ vl n B s (e - s) ∧ vl n B s (e - s) < H then Sum.inr (vl n B s (e - s), e) else Sum.inl (2, s)) = Sum.inl f ∧ q.1 = -1 ∧ cF f q.2) ∨ ∃ v e', (if e = s then Sum.inl (1, s) else if lo ≤ vl n B s (e - s) ∧ vl n B s (e - s) < H then Sum.inr (vl n B s (e - s), e) else Sum.inl (2, s)) = Sum.inr (v, e') ∧ v < H ∧ q.1 = nI v ∧ cS n B e' q.2) := by
      unfold fn_X8_number_83
      rw [g4, g1]
      have j1 := nEq e s (by omega) (by omega)
      by_cases r1 : e = s
      · rw [if_pos (j1.mpr r1), if_pos r1]
        refine (c_blame ⟨g2, g3, g4, g5, g6⟩ 1 s).bind fun x ⟨x1, x2, x3⟩ => ?_
        rw [zok_some]
        exact ⟨g7.trans x3, Or.inl ⟨(1, s), rfl, rfl, x2⟩⟩
      · rw [if_neg (fun r => r1 (j1.mp r)), if_neg r1]
        have bad : ¬ (lo ≤ vl n B s (e - s) ∧ vl n B s (e - s) < H) → zok (fn_X8_number_112 (nI lo) (nI H - 1) (nI s) E) fun q => ag pCs D q.2 ∧ ((∃ f, (if lo ≤ vl n B s (e - s) ∧ vl n B s (e - s) < H then Sum.inr (vl n B s (e - s), e) else Sum.inl (2, s)) = Sum.inl f ∧ q.1 = -1 ∧ cF f q.2) ∨ ∃ v e', (if lo ≤ vl n B s (e - s) ∧ vl n B s (e - s) < H then Sum.inr (vl n B s (e - s), e) else Sum.inl (2, s)) = Sum.inr (v, e') ∧ v < H ∧ q.1 = nI v ∧ cS n B e' q.2) := by
          intro r
          unfold fn_X8_number_112
          rw [if_neg r]
          refine (c_blame ⟨g2, g3, g4, g5, g6⟩ 2 s).bind fun x ⟨x1, x2, x3⟩ => ?_
          rw [zok_some]
          exact ⟨g7.trans x3, Or.inl ⟨(2, s), rfl, rfl, x2⟩⟩
        have j2 := nLt (vl n B s (e - s)) lo (by omega) (by omega)
        have j3 := eM (vl n B s (e - s)) hve
        by_cases r2 : vl n B s (e - s) < lo
        · rw [if_pos (j2.mpr r2)]
          exact bad (by omega)
        · rw [if_neg (fun r => r2 (j2.mp r))]
          by_cases r3 : vl n B s (e - s) < H
          · rw [if_pos (j3.mpr r3), zok_some]
            have : lo ≤ vl n B s (e - s) ∧ vl n B s (e - s) < H := ⟨by omega, r3⟩
            rw [if_pos this]
            exact ⟨g7, Or.inr ⟨_, _, rfl, r3, rfl, ⟨g2, g3, g4, g5, g6⟩⟩⟩
          · rw [if_neg (fun r => r3 (j3.mp r))]
            exact bad (by omega)
    rw [fn_X8_number_8, g2.2.1, g4]
    by_cases r0 : n ≤ e
    · rw [if_pos (nI_le r0 (by omega))]
      exact fin
    · have hd := dg_yes (n := n) (B := B) (p := s) (by rw [he]; omega)
      rw [he] at hd
      rw [if_neg (nI_ge (by omega) (by omega)), c_byteAt g2 (by omega), Option.bind_some]
      unfold dgt at hd
      rw [decide_eq_false_iff_not] at hd
      by_cases r1 : tb n B e < 48
      · rw [if_pos r1]; exact fin
      · rw [if_neg r1, Option.bind_some, if_pos (Classical.not_not.mp fun r => hd ⟨r1, r⟩)]
        exact fin
end M94
