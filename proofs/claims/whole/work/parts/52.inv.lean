/-! THE MATHEMATICS: what holds between two calls. P: 0 W, 1 H, 2 signs, 3 words, 4 covers, 5 d, 6 parts, 7 standing, 8 images, 9 bytes -/
def iv_al (P : Nat → Nat) (D : zD) : Prop :=
  (2 ≤ P 0 ∧ P 0 ≤ 6 ∧ 2 ≤ P 1 ∧ P 1 ≤ 5 ∧ P 2 ≤ 12 ∧ P 3 ≤ 8) ∧
  (gI D 3 0 = nI (P 0) ∧ gI D 3 1 = nI (P 1) ∧ gI D 3 2 = nI (P 2) ∧ gI D 3 3 = nI (P 3)) ∧
  (gI D 102 14 = nI (P 0) ∧ gI D 102 15 = nI (P 1) ∧ gI D 102 16 = nI (P 2) ∧ gI D 102 17 = nI (P 3)) ∧
  (∀ s, s < P 2 → gI D 4 s = gI D 105 s ∧ gI D 5 s = gI D 107 s ∧ un (gI D 105 s) < 2 ^ (P 0 * P 1) ∧ (gI D 107 s = -1 ∨ ∃ f, f < 4 ∧ gI D 107 s = nI f)) ∧
  (∀ k, k < P 3 → ∃ l, 1 ≤ l ∧ l ≤ 6 ∧ gI D 7 k = nI l ∧ gI D 109 k = nI l ∧ ∀ i, i < l → ∃ s, s < P 2 ∧ gI D 6 (k * 6 + i) = nI s ∧ gI D (120 + k) i = nI s)
def iv_co (P : Nat → Nat) (D : zD) : Prop :=
  (1 ≤ P 4 ∧ P 4 ≤ 500) ∧ gI D 20 1 = nI (P 4) ∧ gI D 102 26 = nI (P 4) ∧ ∀ k, k < P 4 → gI D 21 k = gI D 128 k ∧ un (gI D 128 k) < 2 ^ (P 0 * P 1)
/-- a scene: the class's objects from b on, the reference's row R -/
def iv_Z (ns d np nt b : Nat) (R : Nat → Int32) (D : zD) : Prop :=
  (d ≤ 3 ∧ np ≤ 6 ∧ nt ≤ 8) ∧ (gI D b 0 = nI d ∧ gI D b 1 = nI np ∧ gI D b 2 = nI nt) ∧ (R 0 = nI d ∧ R 1 = nI np ∧ R 2 = nI nt) ∧
  (∀ k, k < np → gI D (b + 1) k = R (3 + 2 * k) ∧ gI D (b + 2) k = R (4 + 2 * k)) ∧
  (∀ k, k < nt → ∃ s x y, s < ns ∧ x ≤ 99 ∧ 1 ≤ y ∧ y ≤ 99 ∧ gI D (b + 3) k = nI s ∧ gI D (b + 4) k = nI x ∧ gI D (b + 5) k = nI y ∧ R (15 + 3 * k) = nI s ∧ R (16 + 3 * k) = nI x ∧ R (17 + 3 * k) = nI y)
def rS (D : zD) : Nat → Int32 := fun j => if j < 3 then gI D 102 (34 + j) else if j < 15 then gI D (163 + (j - 3) / 2) ((j - 3) % 2) else gI D (170 + (j - 15) / 3) ((j - 15) % 3)
def iv_sc (P : Nat → Nat) (D : zD) : Prop := iv_Z (P 2) (P 5) (P 6) (P 7) 57 (rS D) D
def iv_im (P : Nat → Nat) (D : zD) : Prop := P 8 ≤ 3 ∧ gI D 0 18 = nI (P 8) ∧ gI D 102 37 = nI (P 8) ∧ ∀ k, k < P 8 → ∃ d np nt, iv_Z (P 2) d np nt (63 + 6 * k) (gI D (179 + k)) D
def iv_ta (P : Nat → Nat) (D : zD) : Prop := P 9 ≤ 500 ∧ gI D 0 17 = nI (P 9) ∧ gI D 102 1 = nI (P 9) ∧ gI D 2 4 = gI D 102 3 ∧ ∀ k, k < P 9 → (gI D 1 k).toInt8.toInt32 = gI D 1 k ∧ gI D 1 k &&& 255 = gI D 103 k
def iv_C (P : Nat → Nat) (D : zD) : Prop := iv_al P D ∧ iv_co P D ∧ iv_sc P D ∧ iv_im P D ∧ iv_ta P D
/-- the pairs kept of paints pt -/
def tg (a c ns nc : Nat) (cv : Nat → Int32) (e : Nat) (pt : Nat → Int32) (D : zD) : Prop :=
  gI D a 4 = nI ns ∧ gI D a 5 = nI c ∧ gI D a 6 = nI e ∧ gI D a 7 = nI (prA ns nc cv e pt) ∧ (∀ s, s < ns → gI D (a + 1) s = pt s) ∧
  (∀ s, s < ns → ∀ o, o < 32 → bt (gI D (a + 2) s) o = (decide (o < ns) && !decide (o = s) && cfp nc cv e pt s o)) ∧
  (∀ s o, s < ns → o < ns → s ≠ o → ∀ i, i < c → bt (gI D (a + 3) (s * 12 + o)) i = cfx nc cv e ((pt s ^^^ pt o) ^^^ bit1 i))
def iv_K (P : Nat → Nat) (D : zD) : Prop :=
  (gI D 0 16 = 0 ∨ (gI D 0 16 = 1 ∧ tg 81 (P 0 * P 1) (P 2) (P 4) (gI D 128) (2 * P 5) (gI D 105) D)) ∧
  (gI D 101 0 = -1000000 ∨ (gI D 101 0 = nI (sBl (P 2) (gI D 105) (P 4) (gI D 128) (2 * P 5)) ∧ gI D 101 1 = nI (pby (P 2) (gI D 105) (gI D 128) (2 * P 5) (sBl (P 2) (gI D 105) (P 4) (gI D 128) (2 * P 5))))) ∧
  (gI D 101 2 = -1000000 ∨ sp_ch (P 0 * P 1) (P 2) (gI D 105) (P 4) (gI D 128) (2 * P 5) (gI D 101 2) (gI D 101 3) (gI D 101 4)) ∧
  (gI D 101 5 = -1000000 ∨ (gI D 101 5 = nI (sSteps (P 0 * P 1) (P 2) (P 4) (gI D 128) (2 * P 5) 30 (gI D 105) 0).1 ∧ gI D 101 6 = nI (sSteps (P 0 * P 1) (P 2) (P 4) (gI D 128) (2 * P 5) 30 (gI D 105) 0).2)) ∧
  (gI D 101 7 = -1000000 ∨ gI D 101 7 = nI (sMM (cfp (P 4) (gI D 128) (2 * P 5) (gI D 105)) (P 2) (P 2) 0 (fun _ => true))) ∧
  (gI D 101 8 = -1000000 ∨ sp_mo (P 0 * P 1) (P 4) (gI D 128) (2 * P 5) (gI D 101 8)) ∧
  (gI D 101 9 = -1000000 ∨ gI D 101 9 = sTaken (P 0 * P 1) (P 4) (gI D 128) (2 * P 5)) ∧
  (∀ s, s < P 2 → gI D 101 (10 + 2 * s) = -1000000 ∨ sp_le (P 0 * P 1) (P 2) (gI D 105) (2 * P 5) s (gI D 101 (10 + 2 * s)) (gI D 101 (11 + 2 * s)))
/-- columns that are seen -/
def sHid (w nt : Nat) (X Y : Nat → Int32) (b col : Nat) (s : Int32) : Bool := decide (zff (fun o => decide (Y o < Y b) && decide (2 * X o * Y b ≤ 2 * s * Y b + (2 * (X b + nI col) + 1 - 2 * s) * Y o) && decide (2 * s * Y b + (2 * (X b + nI col) + 1 - 2 * s) * Y o ≤ 2 * (X o + nI w) * Y b)) nt 0 < nt)
def sSee (w nt : Nat) (X Y : Nat → Int32) (b : Nat) (s : Int32) : Int32 := zfo (fun k acc => if sHid w nt X Y b k s then acc else acc ||| bit1 k) w 0 0
def sBy (w nt : Nat) (X Y : Nat → Int32) (b s : Nat) : Int32 := zfo (fun k acc => acc ||| sSee w nt X Y b (nI k)) (s + 1) 0 0
theorem sHid_cong {w nt : Nat} {X Y U V : Nat → Int32} {b col : Nat} {s : Int32} (hb : b < nt) (h : ∀ o, o < nt → X o = U o ∧ Y o = V o) : sHid w nt X Y b col s = sHid w nt U V b col s := by
  unfold sHid
  rw [(h b hb).1, (h b hb).2, zff_cong fun o _ ho => by rw [(h o (by omega)).1, (h o (by omega)).2]]
theorem sSee_cong {w nt : Nat} {X Y U V : Nat → Int32} {b : Nat} {s : Int32} (hb : b < nt) (h : ∀ o, o < nt → X o = U o ∧ Y o = V o) : sSee w nt X Y b s = sSee w nt U V b s := zfo_cong fun k acc _ _ => by rw [sHid_cong hb h]
theorem sBy_cong {w nt : Nat} {X Y U V : Nat → Int32} {b s : Nat} (hb : b < nt) (h : ∀ o, o < nt → X o = U o ∧ Y o = V o) : sBy w nt X Y b s = sBy w nt U V b s := zfo_cong fun k acc _ _ => by rw [sSee_cong hb h]
def iv_O (P : Nat → Nat) (D : zD) : Prop :=
  ∀ b, b < P 7 → ∃ m, m ≤ 100 ∧ gI D 100 b = nI m ∧ ∀ s, s < m → gI D 98 (b * 100 + s) = sSee (P 0) (P 7) (fun o => gI D (170 + o) 1) (fun o => gI D (170 + o) 2) b (nI s) ∧ gI D 99 (b * 100 + s) = sBy (P 0) (P 7) (fun o => gI D (170 + o) 1) (fun o => gI D (170 + o) 2) b s
def iv (P : Nat → Nat) (D : zD) : Prop := iv_C P D ∧ iv_K P D ∧ iv_O P D
/-! what these look at -/
def pA (a b : Nat) : Prop := (a = 3 ∧ b < 4) ∨ (4 ≤ a ∧ a ≤ 7) ∨ (a = 102 ∧ 14 ≤ b ∧ b ≤ 17) ∨ a = 105 ∨ a = 107 ∨ a = 109 ∨ (120 ≤ a ∧ a ≤ 127)
def pB (a b : Nat) : Prop := (a = 20 ∧ b = 1) ∨ a = 21 ∨ (a = 102 ∧ b = 26) ∨ a = 128
def pS (a b : Nat) : Prop := (57 ≤ a ∧ a ≤ 62) ∨ (a = 102 ∧ 34 ≤ b ∧ b ≤ 36) ∨ (163 ≤ a ∧ a ≤ 168) ∨ (170 ≤ a ∧ a ≤ 177)
def pI (a b : Nat) : Prop := (63 ≤ a ∧ a ≤ 80) ∨ (a = 0 ∧ b = 18) ∨ (a = 102 ∧ b = 37) ∨ (179 ≤ a ∧ a ≤ 181)
def pT (a b : Nat) : Prop := (a = 0 ∧ b = 17) ∨ (a = 102 ∧ (b = 1 ∨ b = 3)) ∨ (a = 2 ∧ b = 4) ∨ a = 1 ∨ a = 103
def pcr (a b : Nat) : Prop := pA a b ∨ pB a b ∨ pS a b ∨ pI a b ∨ pT a b
def pK (a b : Nat) : Prop := a = 101 ∨ (81 ≤ a ∧ a ≤ 84) ∨ (a = 0 ∧ b = 16)
def pO (a _b : Nat) : Prop := 98 ≤ a ∧ a ≤ 100
def ag (p : Nat → Nat → Prop) (D E : zD) : Prop := ∀ a b, p a b → gI E a b = gI D a b
abbrev agC (D E : zD) : Prop := ag pcr D E
abbrev agK (D E : zD) : Prop := ag pK D E
abbrev agO (D E : zD) : Prop := ag pO D E
theorem ag.refl {p : Nat → Nat → Prop} {D : zD} : ag p D D := fun _ _ _ => rfl
theorem ag.trans {p : Nat → Nat → Prop} {D E F : zD} (h : ag p D E) (k : ag p E F) : ag p D F := fun a b q => (k a b q).trans (h a b q)
theorem ag.mono {p q : Nat → Nat → Prop} {D E : zD} (h : ag p D E) (k : ∀ a b, q a b → p a b) : ag q D E := fun a b r => h a b (k a b r)
theorem ag.sI {p : Nat → Nat → Prop} {D E : zD} (h : ag p D E) {k j : Nat} {x : Int32} (hk : ¬ p k j) : ag p D (sI E k j x) := fun a b q => by
  have e : ¬ (a = k ∧ b = j) := fun r => hk (r.1 ▸ r.2 ▸ q)
  exact (if_neg e).trans (h a b q)
theorem ag.sL {p : Nat → Nat → Prop} {D E : zD} (h : ag p D E) {k j : Nat} {x : Int64} : ag p D (sL E k j x) := h
theorem ag.sC {p : Nat → Nat → Prop} {D E : zD} (h : ag p D E) {k0 k sp dp n : Nat} (hk : ∀ b, ¬ p k b) : ag p D (sC E k0 k sp dp n) := fun a b q => by
  have e : ¬ a = k := fun r => hk b (r ▸ q)
  exact (if_neg e).trans (h a b q)
theorem ag.zfill {p : Nat → Nat → Prop} {D E : zD} (h : ag p D E) {k n : Nat} {v : Int32} (hk : ∀ b, ¬ p k b) : ag p D (zfill E k n v) := fun a b q => by
  have e : ¬ (a = k ∧ b < n) := fun r => hk b (r.1 ▸ q)
  exact (if_neg e).trans (h a b q)
theorem fr.ag {p : Nat → Nat → Prop} {L : List Nat} {D E : zD} (h : fr L D E) (k : ∀ a ∈ L, ∀ b, ¬ p a b) : ag p D E := fun a b q => h.g (fun r => k a r b q) b
theorem pcr_A {a b : Nat} (h : pA a b) : pcr a b := Or.inl h
theorem pcr_B {a b : Nat} (h : pB a b) : pcr a b := Or.inr (Or.inl h)
theorem pcr_S {a b : Nat} (h : pS a b) : pcr a b := Or.inr (Or.inr (Or.inl h))
theorem pcr_I {a b : Nat} (h : pI a b) : pcr a b := Or.inr (Or.inr (Or.inr (Or.inl h)))
theorem pcr_T {a b : Nat} (h : pT a b) : pcr a b := Or.inr (Or.inr (Or.inr (Or.inr h)))
theorem ag.al {D E : zD} (h : ag pA D E) {P : Nat → Nat} (k : iv_al P D) : iv_al P E := by
  obtain ⟨h1, ⟨a0, a1, a2, a3⟩, ⟨b0, b1, b2, b3⟩, h3, h4⟩ := k
  have hn := h1
  refine ⟨h1, ⟨?_, ?_, ?_, ?_⟩, ⟨?_, ?_, ?_, ?_⟩, fun s hs => ?_, fun k hk => ?_⟩
  · rw [h 3 0 (by unfold pA; omega), a0]
  · rw [h 3 1 (by unfold pA; omega), a1]
  · rw [h 3 2 (by unfold pA; omega), a2]
  · rw [h 3 3 (by unfold pA; omega), a3]
  · rw [h 102 14 (by unfold pA; omega), b0]
  · rw [h 102 15 (by unfold pA; omega), b1]
  · rw [h 102 16 (by unfold pA; omega), b2]
  · rw [h 102 17 (by unfold pA; omega), b3]
  · rw [h 4 s (by unfold pA; omega), h 105 s (by unfold pA; omega), h 5 s (by unfold pA; omega), h 107 s (by unfold pA; omega)]
    exact h3 s hs
  · obtain ⟨l, l1, l6, e1, e2, hl⟩ := h4 k hk
    refine ⟨l, l1, l6, by rw [h 7 k (by unfold pA; omega), e1], by rw [h 109 k (by unfold pA; omega), e2], fun i hi => ?_⟩
    rw [h 6 _ (by unfold pA; omega), h (120 + k) _ (by unfold pA; omega)]
    exact hl i hi
theorem ag.co {D E : zD} (h : ag pB D E) {P : Nat → Nat} (k : iv_co P D) : iv_co P E := by
  obtain ⟨h1, h2, h3, h4⟩ := k
  refine ⟨h1, by rw [h 20 1 (by unfold pB; omega), h2], by rw [h 102 26 (by unfold pB; omega), h3], fun k hk => ?_⟩
  rw [h 21 k (by unfold pB; omega), h 128 k (by unfold pB; omega)]
  exact h4 k hk
theorem iv_Z.keep {D E : zD} {ns d np nt b : Nat} {R : Nat → Int32} (h : ∀ a j, b ≤ a → a ≤ b + 5 → gI E a j = gI D a j) (k : iv_Z ns d np nt b R D) : iv_Z ns d np nt b R E := by
  obtain ⟨h1, ⟨a0, a1, a2⟩, h3, h4, h5⟩ := k
  refine ⟨h1, ⟨?_, ?_, ?_⟩, h3, fun k hk => ?_, fun k hk => ?_⟩
  · rw [h b 0 (by omega) (by omega), a0]
  · rw [h b 1 (by omega) (by omega), a1]
  · rw [h b 2 (by omega) (by omega), a2]
  · rw [h (b + 1) k (by omega) (by omega), h (b + 2) k (by omega) (by omega)]
    exact h4 k hk
  · rw [h (b + 3) k (by omega) (by omega), h (b + 4) k (by omega) (by omega), h (b + 5) k (by omega) (by omega)]
    exact h5 k hk
theorem iv_Z.cong {D : zD} {ns d np nt b : Nat} {R T : Nat → Int32} (e : ∀ j, j < 39 → R j = T j) (k : iv_Z ns d np nt b R D) : iv_Z ns d np nt b T D := by
  obtain ⟨h1, h2, ⟨r0, r1, r2⟩, h4, h5⟩ := k
  refine ⟨h1, h2, ⟨by rw [← e 0 (by omega), r0], by rw [← e 1 (by omega), r1], by rw [← e 2 (by omega), r2]⟩, fun k hk => ?_, fun k hk => ?_⟩
  · rw [← e (3 + 2 * k) (by omega), ← e (4 + 2 * k) (by omega)]
    exact h4 k hk
  · rw [← e (15 + 3 * k) (by omega), ← e (16 + 3 * k) (by omega), ← e (17 + 3 * k) (by omega)]
    exact h5 k hk
theorem ag.rSj {D E : zD} (h : ag pS D E) : ∀ j, j < 39 → rS E j = rS D j := by
  intro j hj
  unfold rS
  by_cases h1 : j < 3
  · rw [if_pos h1, if_pos h1, h 102 (34 + j) (by unfold pS; omega)]
  · rw [if_neg h1, if_neg h1]
    by_cases h2 : j < 15
    · rw [if_pos h2, if_pos h2, h (163 + (j - 3) / 2) _ (by unfold pS; omega)]
    · rw [if_neg h2, if_neg h2, h (170 + (j - 15) / 3) _ (by unfold pS; omega)]
theorem ag.sc {D E : zD} (h : ag pS D E) {P : Nat → Nat} (k : iv_sc P D) : iv_sc P E :=
  (iv_Z.keep (fun a j _ _ => h a j (by unfold pS; omega)) k).cong fun j hj => (h.rSj j hj).symm
theorem ag.im {D E : zD} (h : ag pI D E) {P : Nat → Nat} (k : iv_im P D) : iv_im P E := by
  obtain ⟨h1, h2, h3, h4⟩ := k
  refine ⟨h1, by rw [h 0 18 (by unfold pI; omega), h2], by rw [h 102 37 (by unfold pI; omega), h3], fun k hk => ?_⟩
  obtain ⟨d, np, nt, hz⟩ := h4 k hk
  exact ⟨d, np, nt, (iv_Z.keep (fun a j _ _ => h a j (by unfold pI; omega)) hz).cong fun j _ => (h (179 + k) j (by unfold pI; omega)).symm⟩
theorem ag.ta {D E : zD} (h : ag pT D E) {P : Nat → Nat} (k : iv_ta P D) : iv_ta P E := by
  obtain ⟨h1, h2, h3, h4, h5⟩ := k
  refine ⟨h1, by rw [h 0 17 (by unfold pT; omega), h2], by rw [h 102 1 (by unfold pT; omega), h3], by rw [h 2 4 (by unfold pT; omega), h 102 3 (by unfold pT; omega), h4], fun k hk => ?_⟩
  rw [h 1 k (by unfold pT; omega), h 103 k (by unfold pT; omega)]
  exact h5 k hk
theorem agC.C {D E : zD} (h : ag pcr D E) {P : Nat → Nat} (k : iv_C P D) : iv_C P E := ⟨(h.mono fun _ _ => pcr_A).al k.1, (h.mono fun _ _ => pcr_B).co k.2.1, (h.mono fun _ _ => pcr_S).sc k.2.2.1, (h.mono fun _ _ => pcr_I).im k.2.2.2.1, (h.mono fun _ _ => pcr_T).ta k.2.2.2.2⟩
theorem ag.f105 {D E : zD} (h : ag pA D E) : gI E 105 = gI D 105 := funext fun b => h 105 b (by unfold pA; omega)
theorem ag.f128 {D E : zD} (h : ag pB D E) : gI E 128 = gI D 128 := funext fun b => h 128 b (by unfold pB; omega)
theorem tg.keep {D E : zD} {a c ns nc : Nat} {cv : Nat → Int32} {e : Nat} {pt : Nat → Int32} (h : ∀ k j, a ≤ k → k ≤ a + 3 → gI E k j = gI D k j) (k : tg a c ns nc cv e pt D) : tg a c ns nc cv e pt E := by
  obtain ⟨h1, h2, h3, h4, h5, h6, h7⟩ := k
  refine ⟨by rw [h _ _ (by omega) (by omega), h1], by rw [h _ _ (by omega) (by omega), h2], by rw [h _ _ (by omega) (by omega), h3], by rw [h _ _ (by omega) (by omega), h4], fun s hs => ?_, fun s hs => ?_, fun s o hs ho ne => ?_⟩
  · rw [h _ _ (by omega) (by omega), h5 s hs]
  · rw [h _ _ (by omega) (by omega)]; exact h6 s hs
  · rw [h _ _ (by omega) (by omega)]; exact h7 s o hs ho ne
theorem ag.K {D E : zD} (h : ag pK D E) (g : ag pA D E) (g2 : ag pB D E) {P : Nat → Nat} (k : iv_K P D) : iv_K P E := by
  obtain ⟨h0, h1, h2, h3, h4, h5, h6, h7⟩ := k
  unfold iv_K
  rw [g.f105, g2.f128, h 0 16 (by unfold pK; omega), h 101 0 (by unfold pK; omega), h 101 1 (by unfold pK; omega), h 101 2 (by unfold pK; omega), h 101 3 (by unfold pK; omega), h 101 4 (by unfold pK; omega), h 101 5 (by unfold pK; omega), h 101 6 (by unfold pK; omega), h 101 7 (by unfold pK; omega), h 101 8 (by unfold pK; omega), h 101 9 (by unfold pK; omega)]
  refine ⟨?_, h1, h2, h3, h4, h5, h6, fun s hs => ?_⟩
  · rcases h0 with h0 | ⟨h0, ht⟩
    · exact Or.inl h0
    · exact Or.inr ⟨h0, ht.keep fun k j a b => h k j (by unfold pK; omega)⟩
  · rw [h 101 _ (by unfold pK; omega), h 101 _ (by unfold pK; omega)]
    exact h7 s hs
theorem ag.O' {D E : zD} (h : ag pO D E) (g : ∀ o b, o < 8 → gI E (170 + o) b = gI D (170 + o) b) {P : Nat → Nat} (hP : P 7 ≤ 8) (k : iv_O P D) : iv_O P E := by
  intro b hb
  obtain ⟨m, hm, e, hs⟩ := k b hb
  refine ⟨m, hm, by rw [h 100 b (by unfold pO; omega), e], fun s hs' => ?_⟩
  have f0 := hs s hs'
  have cg : ∀ o, o < P 7 → (fun o => gI E (170 + o) 1) o = (fun o => gI D (170 + o) 1) o ∧ (fun o => gI E (170 + o) 2) o = (fun o => gI D (170 + o) 2) o := fun o ho => ⟨g _ _ (by omega), g _ _ (by omega)⟩
  rw [h 98 _ (by unfold pO; omega), h 99 _ (by unfold pO; omega), sSee_cong hb cg, sBy_cong hb cg]
  exact f0
theorem ag.O {D E : zD} (h : ag pO D E) (g : ag pS D E) {P : Nat → Nat} (hP : P 7 ≤ 8) (k : iv_O P D) : iv_O P E := h.O' (fun o b ho => g _ _ (by unfold pS; omega)) hP k
theorem iv.keep {D E : zD} {P : Nat → Nat} (h : iv P D) (c : agC D E) (k : agK D E) (o : agO D E) : iv P E := ⟨agC.C c h.1, k.K (c.mono fun _ _ => pcr_A) (c.mono fun _ _ => pcr_B) h.2.1, o.O (c.mono fun _ _ => pcr_S) h.1.2.2.1.1.2.2 h.2.2⟩
