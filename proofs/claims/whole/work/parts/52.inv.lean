/-! THE MATHEMATICS: what holds between two calls. P: 0 W, 1 H, 2 signs, 3 words, 4 covers, 5 d, 6 parts, 7 standing, 8 images, 9 bytes -/
def iv_al (P : Nat → Nat) (D : zD) : Prop :=
  (2 ≤ P 0 ∧ P 0 ≤ 6 ∧ 2 ≤ P 1 ∧ P 1 ≤ 5 ∧ P 2 ≤ 12 ∧ P 3 ≤ 8) ∧
  (gI D 3 0 = nI (P 0) ∧ gI D 3 1 = nI (P 1) ∧ gI D 3 2 = nI (P 2) ∧ gI D 3 3 = nI (P 3)) ∧
  (gI D 102 14 = nI (P 0) ∧ gI D 102 15 = nI (P 1) ∧ gI D 102 16 = nI (P 2) ∧ gI D 102 17 = nI (P 3)) ∧
  (∀ s, s < P 2 → gI D 4 s = gI D 105 s ∧ gI D 5 s = gI D 107 s ∧ un (gI D 105 s) < 2 ^ (P 0 * P 1) ∧ (gI D 107 s = -1 ∨ ∃ f, f < 4 ∧ gI D 107 s = nI f)) ∧
  (∀ k, k < P 3 → ∃ l, 1 ≤ l ∧ l ≤ 6 ∧ gI D 7 k = nI l ∧ gI D 109 k = nI l ∧ ∀ i, i < l → ∃ s, s < P 2 ∧ gI D 6 (k * 6 + i) = nI s ∧ gI D (120 + k) i = nI s)
def iv_co (P : Nat → Nat) (D : zD) : Prop :=
  (1 ≤ P 4 ∧ P 4 ≤ 500) ∧ gI D 20 1 = nI (P 4) ∧ gI D 102 26 = nI (P 4) ∧ ∀ k, k < P 4 → gI D 21 k = gI D 128 k ∧ un (gI D 128 k) < 2 ^ (P 0 * P 1)
/-- a scene: the class's objects from b on, the reference's row R -/
def iv_Z (ns d np nt b : Nat) (R : Nat → Int32) (D : zD) : Prop :=
  (d ≤ 3 ∧ np ≤ 6 ∧ nt ≤ 8) ∧ (gI D b 0 = nI d ∧ gI D b 1 = nI np ∧ gI D b 2 = nI nt) ∧ (R 0 = nI d ∧ R 1 = nI np ∧ R 2 = nI nt) ∧
  (∀ k, k < np → gI D (b + 1) k = R (3 + 2 * k) ∧ gI D (b + 2) k = R (4 + 2 * k)) ∧
  (∀ k, k < nt → ∃ s x y, s < ns ∧ x ≤ 99 ∧ 1 ≤ y ∧ y ≤ 99 ∧ gI D (b + 3) k = nI s ∧ gI D (b + 4) k = nI x ∧ gI D (b + 5) k = nI y ∧ R (15 + 3 * k) = nI s ∧ R (16 + 3 * k) = nI x ∧ R (17 + 3 * k) = nI y)
def rS (D : zD) : Nat → Int32 := fun j => if j < 3 then gI D 102 (34 + j) else if j < 15 then gI D (163 + (j - 3) / 2) ((j - 3) % 2) else gI D (170 + (j - 15) / 3) ((j - 15) % 3)
def iv_sc (P : Nat → Nat) (D : zD) : Prop := iv_Z (P 2) (P 5) (P 6) (P 7) 57 (rS D) D
def iv_im (P : Nat → Nat) (D : zD) : Prop := P 8 ≤ 3 ∧ gI D 0 18 = nI (P 8) ∧ gI D 102 37 = nI (P 8) ∧ ∀ k, k < P 8 → ∃ d np nt, iv_Z (P 2) d np nt (63 + 6 * k) (gI D (179 + k)) D
def iv_ta (P : Nat → Nat) (D : zD) : Prop := P 9 ≤ 500 ∧ gI D 0 17 = nI (P 9) ∧ gI D 102 1 = nI (P 9) ∧ gI D 2 4 = gI D 102 3 ∧ ∀ k, k < P 9 → (gI D 1 k).toInt8.toInt32 = gI D 1 k ∧ gI D 1 k &&& 255 = gI D 103 k
def iv_C (P : Nat → Nat) (D : zD) : Prop := iv_al P D ∧ iv_co P D ∧ iv_sc P D ∧ iv_im P D ∧ iv_ta P D
/-- the pairs kept of paints pt -/
def tg (a c ns nc : Nat) (cv : Nat → Int32) (e : Nat) (pt : Nat → Int32) (D : zD) : Prop :=
  gI D a 4 = nI ns ∧ gI D a 5 = nI c ∧ gI D a 6 = nI e ∧ gI D a 7 = nI (prA ns nc cv e pt) ∧ (∀ s, s < ns → gI D (a + 1) s = pt s) ∧
  (∀ s, s < ns → ∀ o, o < 32 → bt (gI D (a + 2) s) o = (decide (o < ns) && !decide (o = s) && cfp nc cv e pt s o)) ∧
  (∀ s o, s < ns → o < ns → s ≠ o → ∀ i, i < c → bt (gI D (a + 3) (s * 12 + o)) i = cfx nc cv e ((pt s ^^^ pt o) ^^^ bit1 i))
def iv_K (P : Nat → Nat) (D : zD) : Prop :=
  (gI D 0 16 = 0 ∨ (gI D 0 16 = 1 ∧ tg 81 (P 0 * P 1) (P 2) (P 4) (gI D 128) (2 * P 5) (gI D 105) D)) ∧
  (gI D 101 0 = -1000000 ∨ (gI D 101 0 = nI (sBl (P 2) (gI D 105) (P 4) (gI D 128) (2 * P 5)) ∧ gI D 101 1 = nI (pby (P 2) (gI D 105) (gI D 128) (2 * P 5) (sBl (P 2) (gI D 105) (P 4) (gI D 128) (2 * P 5))))) ∧
  (gI D 101 2 = -1000000 ∨ sp_ch (P 0 * P 1) (P 2) (gI D 105) (P 4) (gI D 128) (2 * P 5) (gI D 101 2) (gI D 101 3) (gI D 101 4)) ∧
  (gI D 101 5 = -1000000 ∨ (gI D 101 5 = nI (sSteps (P 0 * P 1) (P 2) (P 4) (gI D 128) (2 * P 5) 30 (gI D 105) 0).1 ∧ gI D 101 6 = nI (sSteps (P 0 * P 1) (P 2) (P 4) (gI D 128) (2 * P 5) 30 (gI D 105) 0).2)) ∧
  (gI D 101 7 = -1000000 ∨ gI D 101 7 = nI (sMM (cfp (P 4) (gI D 128) (2 * P 5) (gI D 105)) (P 2) (P 2) 0 (fun _ => true))) ∧
  (gI D 101 8 = -1000000 ∨ sp_mo (P 0 * P 1) (P 4) (gI D 128) (2 * P 5) (gI D 101 8)) ∧
  (gI D 101 9 = -1000000 ∨ gI D 101 9 = sTaken (P 0 * P 1) (P 4) (gI D 128) (2 * P 5)) ∧
  (∀ s, s < P 2 → gI D 101 (10 + 2 * s) = -1000000 ∨ sp_le (P 0 * P 1) (P 2) (gI D 105) (2 * P 5) s (gI D 101 (10 + 2 * s)) (gI D 101 (11 + 2 * s)))
/-- columns that are seen -/
def sHid (w nt : Nat) (X Y : Nat → Int32) (b col : Nat) (s : Int32) : Bool := decide (zff (fun o => decide (Y o < Y b) && decide (2 * X o * Y b ≤ 2 * s * Y b + (2 * (X b + nI col) + 1 - 2 * s) * Y o) && decide (2 * s * Y b + (2 * (X b + nI col) + 1 - 2 * s) * Y o ≤ 2 * (X o + nI w) * Y b)) nt 0 < nt)
def sSee (w nt : Nat) (X Y : Nat → Int32) (b : Nat) (s : Int32) : Int32 := zfo (fun k acc => if sHid w nt X Y b k s then acc else acc ||| bit1 k) w 0 0
def sBy (w nt : Nat) (X Y : Nat → Int32) (b s : Nat) : Int32 := zfo (fun k acc => acc ||| sSee w nt X Y b (nI k)) (s + 1) 0 0
theorem sHid_cong {w nt : Nat} {X Y U V : Nat → Int32} {b col : Nat} {s : Int32} (hb : b < nt) (h : ∀ o, o < nt → X o = U o ∧ Y o = V o) : sHid w nt X Y b col s = sHid w nt U V b col s := by
  unfold sHid
  rw [(h b hb).1, (h b hb).2, zff_cong fun o _ ho => by rw [(h o (by omega)).1, (h o (by omega)).2]]
theorem sSee_cong {w nt : Nat} {X Y U V : Nat → Int32} {b : Nat} {s : Int32} (hb : b < nt) (h : ∀ o, o < nt → X o = U o ∧ Y o = V o) : sSee w nt X Y b s = sSee w nt U V b s := zfo_cong fun k acc _ _ => by rw [sHid_cong hb h]
theorem sBy_cong {w nt : Nat} {X Y U V : Nat → Int32} {b s : Nat} (hb : b < nt) (h : ∀ o, o < nt → X o = U o ∧ Y o = V o) : sBy w nt X Y b s = sBy w nt U V b s := zfo_cong fun k acc _ _ => by rw [sSee_cong hb h]
def iv_O (P : Nat → Nat) (D : zD) : Prop :=
  ∀ b, b < P 7 → ∃ m, m ≤ 100 ∧ gI D 100 b = nI m ∧ ∀ s, s < m → gI D 98 (b * 100 + s) = sSee (P 0) (P 7) (fun o => gI D (170 + o) 1) (fun o => gI D (170 + o) 2) b (nI s) ∧ gI D 99 (b * 100 + s) = sBy (P 0) (P 7) (fun o => gI D (170 + o) 1) (fun o => gI D (170 + o) 2) b s
def iv (P : Nat → Nat) (D : zD) : Prop := iv_C P D ∧ iv_K P D ∧ iv_O P D
/-! what these look at -/
def pcr (a b : Nat) : Prop := a = 1 ∨ (4 ≤ a ∧ a ≤ 7) ∨ (a = 3 ∧ b < 4) ∨ (a = 20 ∧ b = 1) ∨ a = 21 ∨ (57 ≤ a ∧ a ≤ 80) ∨ (a = 0 ∧ (b = 17 ∨ b = 18)) ∨ (a = 2 ∧ b = 4) ∨ a = 103 ∨ a = 105 ∨ a = 107 ∨ a = 109 ∨ (120 ≤ a ∧ a ≤ 128) ∨ (163 ≤ a ∧ a ≤ 168) ∨ (170 ≤ a ∧ a ≤ 177) ∨ (179 ≤ a ∧ a ≤ 181) ∨ (a = 102 ∧ (b = 1 ∨ b = 3 ∨ (14 ≤ b ∧ b ≤ 17) ∨ b = 26 ∨ (34 ≤ b ∧ b ≤ 37)))
def pK (a b : Nat) : Prop := a = 101 ∨ (81 ≤ a ∧ a ≤ 84) ∨ (a = 0 ∧ b = 16)
def pO (a : Nat) : Prop := 98 ≤ a ∧ a ≤ 100
def agC (D E : zD) : Prop := ∀ a b, pcr a b → gI E a b = gI D a b
def agK (D E : zD) : Prop := ∀ a b, pK a b → gI E a b = gI D a b
def agO (D E : zD) : Prop := ∀ a b, pO a → gI E a b = gI D a b
theorem agC.refl {D : zD} : agC D D := fun _ _ _ => rfl
theorem agK.refl {D : zD} : agK D D := fun _ _ _ => rfl
theorem agO.refl {D : zD} : agO D D := fun _ _ _ => rfl
theorem agC.trans {D E F : zD} (h : agC D E) (k : agC E F) : agC D F := fun a b p => (k a b p).trans (h a b p)
theorem agK.trans {D E F : zD} (h : agK D E) (k : agK E F) : agK D F := fun a b p => (k a b p).trans (h a b p)
theorem agO.trans {D E F : zD} (h : agO D E) (k : agO E F) : agO D F := fun a b p => (k a b p).trans (h a b p)
theorem agC.sI {D E : zD} (h : agC D E) {k j : Nat} {x : Int32} (hk : ¬ pcr k j) : agC D (sI E k j x) := fun a b p => by
  have e : ¬ (a = k ∧ b = j) := fun q => hk (q.1 ▸ q.2 ▸ p)
  exact (if_neg e).trans (h a b p)
theorem agK.sI {D E : zD} (h : agK D E) {k j : Nat} {x : Int32} (hk : ¬ pK k j) : agK D (sI E k j x) := fun a b p => by
  have e : ¬ (a = k ∧ b = j) := fun q => hk (q.1 ▸ q.2 ▸ p)
  exact (if_neg e).trans (h a b p)
theorem agO.sI {D E : zD} (h : agO D E) {k j : Nat} {x : Int32} (hk : ¬ pO k) : agO D (sI E k j x) := fun a b p => by
  have e : ¬ (a = k ∧ b = j) := fun q => hk (q.1 ▸ p)
  exact (if_neg e).trans (h a b p)
theorem agC.sL {D E : zD} (h : agC D E) {k j : Nat} {x : Int64} : agC D (sL E k j x) := h
theorem agK.sL {D E : zD} (h : agK D E) {k j : Nat} {x : Int64} : agK D (sL E k j x) := h
theorem agO.sL {D E : zD} (h : agO D E) {k j : Nat} {x : Int64} : agO D (sL E k j x) := h
theorem fr.agC {L : List Nat} {D E : zD} (h : fr L D E) (k : ∀ a ∈ L, ∀ b, ¬ pcr a b) : agC D E := fun a b p => h.g (fun q => k a q b p) b
theorem fr.agK {L : List Nat} {D E : zD} (h : fr L D E) (k : ∀ a ∈ L, ∀ b, ¬ pK a b) : agK D E := fun a b p => h.g (fun q => k a q b p) b
theorem fr.agO {L : List Nat} {D E : zD} (h : fr L D E) (k : ∀ a ∈ L, ¬ pO a) : agO D E := fun a b p => h.g (fun q => k a q p) b
/-- like fr, but of object 102 the fields F may change -/
def frF (L F : List Nat) (D E : zD) : Prop := ∀ a b, a ∉ L → (a = 102 → b ∉ F) → gI E a b = gI D a b
theorem agC.al {D E : zD} (h : agC D E) {P : Nat → Nat} (k : iv_al P D) : iv_al P E := by
  obtain ⟨h1, ⟨a0, a1, a2, a3⟩, ⟨b0, b1, b2, b3⟩, h3, h4⟩ := k
  have hn := h1
  refine ⟨h1, ⟨?_, ?_, ?_, ?_⟩, ⟨?_, ?_, ?_, ?_⟩, fun s hs => ?_, fun k hk => ?_⟩
  · rw [h 3 0 (by unfold pcr; omega), a0]
  · rw [h 3 1 (by unfold pcr; omega), a1]
  · rw [h 3 2 (by unfold pcr; omega), a2]
  · rw [h 3 3 (by unfold pcr; omega), a3]
  · rw [h 102 14 (by unfold pcr; omega), b0]
  · rw [h 102 15 (by unfold pcr; omega), b1]
  · rw [h 102 16 (by unfold pcr; omega), b2]
  · rw [h 102 17 (by unfold pcr; omega), b3]
  · rw [h 4 s (by unfold pcr; omega), h 105 s (by unfold pcr; omega), h 5 s (by unfold pcr; omega), h 107 s (by unfold pcr; omega)]
    exact h3 s hs
  · obtain ⟨l, l1, l6, e1, e2, hl⟩ := h4 k hk
    refine ⟨l, l1, l6, by rw [h 7 k (by unfold pcr; omega), e1], by rw [h 109 k (by unfold pcr; omega), e2], fun i hi => ?_⟩
    rw [h 6 _ (by unfold pcr; omega), h (120 + k) _ (by unfold pcr; omega)]
    exact hl i hi
theorem agC.co {D E : zD} (h : agC D E) {P : Nat → Nat} (k : iv_co P D) : iv_co P E := by
  obtain ⟨h1, h2, h3, h4⟩ := k
  refine ⟨h1, by rw [h 20 1 (by unfold pcr; omega), h2], by rw [h 102 26 (by unfold pcr; omega), h3], fun k hk => ?_⟩
  rw [h 21 k (by unfold pcr; omega), h 128 k (by unfold pcr; omega)]
  exact h4 k hk
theorem agC.Z {D E : zD} (h : agC D E) {ns d np nt b : Nat} {R : Nat → Int32} (hb : 57 ≤ b) (hb2 : b ≤ 75) (k : iv_Z ns d np nt b R D) : iv_Z ns d np nt b R E := by
  obtain ⟨h1, ⟨a0, a1, a2⟩, h3, h4, h5⟩ := k
  refine ⟨h1, ⟨?_, ?_, ?_⟩, h3, fun k hk => ?_, fun k hk => ?_⟩
  · rw [h b 0 (by unfold pcr; omega), a0]
  · rw [h b 1 (by unfold pcr; omega), a1]
  · rw [h b 2 (by unfold pcr; omega), a2]
  · rw [h (b + 1) k (by unfold pcr; omega), h (b + 2) k (by unfold pcr; omega)]
    exact h4 k hk
  · rw [h (b + 3) k (by unfold pcr; omega), h (b + 4) k (by unfold pcr; omega), h (b + 5) k (by unfold pcr; omega)]
    exact h5 k hk
theorem iv_Z.cong {D : zD} {ns d np nt b : Nat} {R T : Nat → Int32} (e : ∀ j, j < 39 → R j = T j) (k : iv_Z ns d np nt b R D) : iv_Z ns d np nt b T D := by
  obtain ⟨h1, h2, ⟨r0, r1, r2⟩, h4, h5⟩ := k
  refine ⟨h1, h2, ⟨by rw [← e 0 (by omega), r0], by rw [← e 1 (by omega), r1], by rw [← e 2 (by omega), r2]⟩, fun k hk => ?_, fun k hk => ?_⟩
  · rw [← e (3 + 2 * k) (by omega), ← e (4 + 2 * k) (by omega)]
    exact h4 k hk
  · rw [← e (15 + 3 * k) (by omega), ← e (16 + 3 * k) (by omega), ← e (17 + 3 * k) (by omega)]
    exact h5 k hk
theorem agC.rSj {D E : zD} (h : agC D E) : ∀ j, j < 39 → rS E j = rS D j := by
  intro j hj
  unfold rS
  by_cases h1 : j < 3
  · rw [if_pos h1, if_pos h1, h 102 (34 + j) (by unfold pcr; omega)]
  · rw [if_neg h1, if_neg h1]
    by_cases h2 : j < 15
    · rw [if_pos h2, if_pos h2, h (163 + (j - 3) / 2) _ (by unfold pcr; omega)]
    · rw [if_neg h2, if_neg h2, h (170 + (j - 15) / 3) _ (by unfold pcr; omega)]
theorem agC.sc {D E : zD} (h : agC D E) {P : Nat → Nat} (k : iv_sc P D) : iv_sc P E :=
  (h.Z (by omega) (by omega) k).cong fun j hj => (h.rSj j hj).symm
theorem agC.im {D E : zD} (h : agC D E) {P : Nat → Nat} (k : iv_im P D) : iv_im P E := by
  obtain ⟨h1, h2, h3, h4⟩ := k
  refine ⟨h1, by rw [h 0 18 (by unfold pcr; omega), h2], by rw [h 102 37 (by unfold pcr; omega), h3], fun k hk => ?_⟩
  obtain ⟨d, np, nt, hz⟩ := h4 k hk
  exact ⟨d, np, nt, (h.Z (by omega) (by omega) hz).cong fun j _ => (h (179 + k) j (by unfold pcr; omega)).symm⟩
theorem agC.ta {D E : zD} (h : agC D E) {P : Nat → Nat} (k : iv_ta P D) : iv_ta P E := by
  obtain ⟨h1, h2, h3, h4, h5⟩ := k
  refine ⟨h1, by rw [h 0 17 (by unfold pcr; omega), h2], by rw [h 102 1 (by unfold pcr; omega), h3], by rw [h 2 4 (by unfold pcr; omega), h 102 3 (by unfold pcr; omega), h4], fun k hk => ?_⟩
  rw [h 1 k (by unfold pcr; omega), h 103 k (by unfold pcr; omega)]
  exact h5 k hk
theorem agC.C {D E : zD} (h : agC D E) {P : Nat → Nat} (k : iv_C P D) : iv_C P E := ⟨h.al k.1, h.co k.2.1, h.sc k.2.2.1, h.im k.2.2.2.1, h.ta k.2.2.2.2⟩
theorem agC.f105 {D E : zD} (h : agC D E) : gI E 105 = gI D 105 := funext fun b => h 105 b (by unfold pcr; omega)
theorem agC.f128 {D E : zD} (h : agC D E) : gI E 128 = gI D 128 := funext fun b => h 128 b (by unfold pcr; omega)
theorem tg.keep {D E : zD} {a c ns nc : Nat} {cv : Nat → Int32} {e : Nat} {pt : Nat → Int32} (h : ∀ k j, a ≤ k → k ≤ a + 3 → gI E k j = gI D k j) (k : tg a c ns nc cv e pt D) : tg a c ns nc cv e pt E := by
  obtain ⟨h1, h2, h3, h4, h5, h6, h7⟩ := k
  refine ⟨by rw [h _ _ (by omega) (by omega), h1], by rw [h _ _ (by omega) (by omega), h2], by rw [h _ _ (by omega) (by omega), h3], by rw [h _ _ (by omega) (by omega), h4], fun s hs => ?_, fun s hs => ?_, fun s o hs ho ne => ?_⟩
  · rw [h _ _ (by omega) (by omega), h5 s hs]
  · rw [h _ _ (by omega) (by omega)]; exact h6 s hs
  · rw [h _ _ (by omega) (by omega)]; exact h7 s o hs ho ne
theorem agK.K {D E : zD} (h : agK D E) (g : agC D E) {P : Nat → Nat} (k : iv_K P D) : iv_K P E := by
  obtain ⟨h0, h1, h2, h3, h4, h5, h6, h7⟩ := k
  unfold iv_K
  rw [g.f105, g.f128, h 0 16 (by unfold pK; omega), h 101 0 (by unfold pK; omega), h 101 1 (by unfold pK; omega), h 101 2 (by unfold pK; omega), h 101 3 (by unfold pK; omega), h 101 4 (by unfold pK; omega), h 101 5 (by unfold pK; omega), h 101 6 (by unfold pK; omega), h 101 7 (by unfold pK; omega), h 101 8 (by unfold pK; omega), h 101 9 (by unfold pK; omega)]
  refine ⟨?_, h1, h2, h3, h4, h5, h6, fun s hs => ?_⟩
  · rcases h0 with h0 | ⟨h0, ht⟩
    · exact Or.inl h0
    · exact Or.inr ⟨h0, ht.keep fun k j a b => h k j (by unfold pK; omega)⟩
  · rw [h 101 _ (by unfold pK; omega), h 101 _ (by unfold pK; omega)]
    exact h7 s hs
theorem agO.O {D E : zD} (h : agO D E) (g : agC D E) {P : Nat → Nat} (hP : P 7 ≤ 8) (k : iv_O P D) : iv_O P E := by
  intro b hb
  obtain ⟨m, hm, e, hs⟩ := k b hb
  refine ⟨m, hm, by rw [h 100 b (by unfold pO; omega), e], fun s hs' => ?_⟩
  have f0 := hs s hs'
  have cg : ∀ o, o < P 7 → (fun o => gI E (170 + o) 1) o = (fun o => gI D (170 + o) 1) o ∧ (fun o => gI E (170 + o) 2) o = (fun o => gI D (170 + o) 2) o := fun o ho => ⟨g _ _ (by unfold pcr; omega), g _ _ (by unfold pcr; omega)⟩
  rw [h 98 _ (by unfold pO; omega), h 99 _ (by unfold pO; omega), sSee_cong hb cg, sBy_cong hb cg]
  exact f0
theorem iv.keep {D E : zD} {P : Nat → Nat} (h : iv P D) (c : agC D E) (k : agK D E) (o : agO D E) : iv P E := ⟨c.C h.1, k.K c h.2.1, o.O c h.1.2.2.1.1.2.2 h.2.2⟩
