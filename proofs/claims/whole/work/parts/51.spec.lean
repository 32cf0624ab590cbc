/-! THE MATHEMATICS: what each dear answer is, told plainly -/
/-- two signs that are unlike in x are confused by some of the covers; e: twice d -/
def cfx (nc : Nat) (cv : Nat → Int32) (e : Nat) (x : Int32) : Bool := decide (zff (fun k => decide (pc (x &&& (cv k ^^^ -1)) ≤ e)) nc 0 < nc)
/-- pairs i > j of f -/
def prs (ns : Nat) (f : Nat → Nat → Bool) : Nat := fb_sm (fun i => fb_ct (fun j => f i j) i) ns
def cfp (nc : Nat) (cv : Nat → Int32) (e : Nat) (pt : Nat → Int32) : Nat → Nat → Bool := fun i j => cfx nc cv e (pt i ^^^ pt j)
def flp (pt : Nat → Int32) (s i : Nat) : Nat → Int32 := fun k => if k = s then pt k ^^^ bit1 i else pt k
def clr (ns nc : Nat) (cv : Nat → Int32) (e : Nat) (pt : Nat → Int32) : Prop := ∀ i j, i < ns → j < ns → i ≠ j → cfp nc cv e pt i j = false
/-- blind -/
def pby (ns : Nat) (pt cv : Nat → Int32) (e k : Nat) : Nat := prs ns fun i j => decide (pc ((pt i ^^^ pt j) &&& (cv k ^^^ -1)) ≤ e)
def sBl (ns : Nat) (pt : Nat → Int32) (nc : Nat) (cv : Nat → Int32) (e : Nat) : Nat := zfo (fun k b => if pby ns pt cv e b < pby ns pt cv e k then k else b) nc 0 0
/-- changed -/
def fl1 (c : Nat) (pt : Nat → Int32) (x : Nat) : Nat → Int32 := flp pt (x / c) (x % c)
def sp_ch (c ns : Nat) (pt : Nat → Int32) (nc : Nat) (cv : Nat → Int32) (e : Nat) (n a b : Int32) : Prop :=
  (clr ns nc cv e pt ∧ n = 0 ∧ a = -1 ∧ b = -1) ∨
  (¬ clr ns nc cv e pt ∧ ∃ x, x < ns * c ∧ clr ns nc cv e (fl1 c pt x) ∧ (∀ y, y < x → ¬ clr ns nc cv e (fl1 c pt y)) ∧ n = 1 ∧ a = nI (100 * (x / c) + x % c) ∧ b = -1) ∨
  (¬ clr ns nc cv e pt ∧ (∀ x, x < ns * c → ¬ clr ns nc cv e (fl1 c pt x)) ∧ ∃ x y, x < y ∧ y < ns * c ∧ clr ns nc cv e (fl1 c (fl1 c pt x) y) ∧ (∀ u v, u < v → v < ns * c → (u < x ∨ (u = x ∧ v < y)) → ¬ clr ns nc cv e (fl1 c (fl1 c pt u) v)) ∧ n = 2 ∧ a = nI (100 * (x / c) + x % c) ∧ b = nI (100 * (y / c) + y % c)) ∨
  (¬ clr ns nc cv e pt ∧ (∀ x, x < ns * c → ¬ clr ns nc cv e (fl1 c pt x)) ∧ (∀ u v, u < v → v < ns * c → ¬ clr ns nc cv e (fl1 c (fl1 c pt u) v)) ∧ n = -1 ∧ a = -1 ∧ b = -1)
theorem sp_ch_one {c ns : Nat} {pt : Nat → Int32} {nc : Nat} {cv : Nat → Int32} {e : Nat} {n a b n2 a2 b2 : Int32} (h : sp_ch c ns pt nc cv e n a b) (k : sp_ch c ns pt nc cv e n2 a2 b2) : n = n2 ∧ a = a2 ∧ b = b2 := by
  rcases h with ⟨h, rfl, rfl, rfl⟩ | ⟨h, x, hx, h1, h2, rfl, rfl, rfl⟩ | ⟨h, h1, x, y, hxy, hy, h2, h3, rfl, rfl, rfl⟩ | ⟨h, h1, h2, rfl, rfl, rfl⟩
  · rcases k with ⟨k, rfl, rfl, rfl⟩ | ⟨k, _⟩ | ⟨k, _⟩ | ⟨k, _⟩
    · exact ⟨rfl, rfl, rfl⟩
    · exact absurd h k
    · exact absurd h k
    · exact absurd h k
  · rcases k with ⟨k, _⟩ | ⟨k, u, hu, k1, k2, rfl, rfl, rfl⟩ | ⟨k, k1, _⟩ | ⟨k, k1, _⟩
    · exact absurd k h
    · obtain rfl : x = u := by
        rcases Nat.lt_trichotomy x u with g | g | g
        · exact absurd h1 (k2 x g)
        · exact g
        · exact absurd k1 (h2 u g)
      exact ⟨rfl, rfl, rfl⟩
    · exact absurd h1 (k1 x hx)
    · exact absurd h1 (k1 x hx)
  · rcases k with ⟨k, _⟩ | ⟨k, u, hu, k1, k2, rfl, rfl, rfl⟩ | ⟨k, k1, u, v, huv, hv, k2, k3, rfl, rfl, rfl⟩ | ⟨k, k1, k2, _⟩
    · exact absurd k h
    · exact absurd k1 (h1 u hu)
    · have g : x = u ∧ y = v := by
        rcases Nat.lt_trichotomy x u with g | g | g
        · exact absurd h2 (k3 x y hxy hy (Or.inl g))
        · subst g
          rcases Nat.lt_trichotomy y v with g | g | g
          · exact absurd h2 (k3 x y hxy hy (Or.inr ⟨rfl, g⟩))
          · exact ⟨rfl, g⟩
          · exact absurd k2 (h3 x v huv hv (Or.inr ⟨rfl, g⟩))
        · exact absurd k2 (h3 u v huv hv (Or.inl g))
      obtain ⟨rfl, rfl⟩ := g
      exact ⟨rfl, rfl, rfl⟩
    · exact absurd h2 (k2 x y hxy hy)
  · rcases k with ⟨k, _⟩ | ⟨k, u, hu, k1, _⟩ | ⟨k, k1, u, v, huv, hv, k2, _⟩ | ⟨k, k1, k2, rfl, rfl, rfl⟩
    · exact absurd k h
    · exact absurd k1 (h1 u hu)
    · exact absurd k2 (h2 u v huv hv)
    · exact ⟨rfl, rfl, rfl⟩
/-- step by step -/
def prA (ns nc : Nat) (cv : Nat → Int32) (e : Nat) (pt : Nat → Int32) : Nat := prs ns (cfp nc cv e pt)
def sBest (c ns nc : Nat) (cv : Nat → Int32) (e : Nat) (pt : Nat → Int32) : Nat × Nat := zfo (fun a st => if prA ns nc cv e (fl1 c pt a) < st.2 then (a + 1, prA ns nc cv e (fl1 c pt a)) else st) (ns * c) 0 (0, prA ns nc cv e pt)
def sSteps (c ns nc : Nat) (cv : Nat → Int32) (e : Nat) : Nat → (Nat → Int32) → Nat → Nat × Nat
  | 0, pt, k => (k, prA ns nc cv e pt)
  | n + 1, pt, k => if 0 < prA ns nc cv e pt then (if (sBest c ns nc cv e pt).1 = 0 then (k, prA ns nc cv e pt) else sSteps c ns nc cv e n (fl1 c pt ((sBest c ns nc cv e pt).1 - 1)) (k + 1)) else (k, prA ns nc cv e pt)
/-- most pairs that have no sign in common: among the signs from s on that are in F -/
def sMM (f : Nat → Nat → Bool) (ns : Nat) : Nat → Nat → (Nat → Bool) → Nat
  | 0, _, _ => 0
  | n + 1, s, F => if F s then zfo (fun o b => if F o && f s o then max b (1 + sMM f ns n (s + 1) (fun k => F k && !decide (k = o))) else b) n (s + 1) (sMM f ns n (s + 1) F) else sMM f ns n (s + 1) F
/-- least part -/
def tls (ns : Nat) (pt : Nat → Int32) (e s : Nat) (T : Int32) : Prop := ∀ o, o < ns → o ≠ s → e < pc ((pt s ^^^ pt o) &&& T)
def sp_le (c ns : Nat) (pt : Nat → Int32) (e s : Nat) (n b : Int32) : Prop :=
  (∃ T, T < 2 ^ c ∧ tls ns pt e s (nI T) ∧ pc (nI T) ≤ 6 ∧ (∀ U, U < 2 ^ c → tls ns pt e s (nI U) → pc (nI T) ≤ pc (nI U)) ∧ (∀ U, U < T → pc (nI U) = pc (nI T) → ¬ tls ns pt e s (nI U)) ∧ n = nI (pc (nI T)) ∧ b = nI T) ∨
  ((∀ T, T < 2 ^ c → tls ns pt e s (nI T) → 6 < pc (nI T)) ∧ n = -1 ∧ b = -1)
theorem sp_le_one {c ns : Nat} {pt : Nat → Int32} {e s : Nat} {n b n2 b2 : Int32} (h : sp_le c ns pt e s n b) (k : sp_le c ns pt e s n2 b2) : n = n2 ∧ b = b2 := by
  rcases h with ⟨T, h1, h2, h3, h4, h5, rfl, rfl⟩ | ⟨h, rfl, rfl⟩
  · rcases k with ⟨U, k1, k2, k3, k4, k5, rfl, rfl⟩ | ⟨k, _⟩
    · have e1 := h4 U k1 k2
      have e2 := k4 T h1 h2
      obtain rfl : T = U := by
        rcases Nat.lt_trichotomy T U with g | g | g
        · exact absurd h2 (k5 T g (by omega))
        · exact g
        · exact absurd k2 (h5 U g (by omega))
      exact ⟨rfl, rfl⟩
    · have := k T h1 h2
      omega
  · rcases k with ⟨U, k1, k2, k3, k4, k5, rfl, rfl⟩ | ⟨k, rfl, rfl⟩
    · have := h U k1 k2
      omega
    · exact ⟨rfl, rfl⟩
/-- cliques of k among S, 64 at most -/
def CL (adj : Nat → Nat → Bool) : Nat → (Nat → Bool) → Prop
  | 0, _ => True
  | k + 1, S => ∃ v, v < 64 ∧ S v = true ∧ CL adj k (fun u => S u && adj v u)
def apt (c nc : Nat) (cv : Nat → Int32) (e : Nat) (u v : Nat) : Bool := decide (u < 2 ^ c) && decide (v < 2 ^ c) && !cfx nc cv e (nI u ^^^ nI v)
def sp_mo (c nc : Nat) (cv : Nat → Int32) (e : Nat) (v : Int32) : Prop := (6 < c ∧ v = -1) ∨ (c ≤ 6 ∧ ∃ m, v = nI (m + 1) ∧ m < 64 ∧ CL (apt c nc cv e) m (apt c nc cv e 0) ∧ ∀ k, CL (apt c nc cv e) k (apt c nc cv e 0) → k ≤ m)
theorem sp_mo_one {c nc : Nat} {cv : Nat → Int32} {e : Nat} {v w : Int32} (h : sp_mo c nc cv e v) (k : sp_mo c nc cv e w) : v = w := by
  rcases h with ⟨h, rfl⟩ | ⟨h, m, rfl, _, h1, h2⟩ <;> rcases k with ⟨k, rfl⟩ | ⟨k, m2, rfl, _, k1, k2⟩
  · rfl
  · omega
  · omega
  · have e1 := h2 _ k1
    have e2 := k2 _ h1
    rw [show m = m2 by omega]
/-- row by row -/
def sTk (c nc : Nat) (cv : Nat → Int32) (e : Nat) : Nat × (Nat → Bool) := zfo (fun v (s : Nat × (Nat → Bool)) => if fb_ct (fun t => s.2 t && cfx nc cv e (nI v ^^^ nI t)) v = 0 then (s.1 + 1, fun t => s.2 t || decide (t = v)) else s) (2 ^ c) 0 (0, fun _ => false)
def sTaken (c nc : Nat) (cv : Nat → Int32) (e : Nat) : Int32 := if 12 < c then -1 else nI (sTk c nc cv e).1
theorem sFi_cfx {nc : Nat} {cv : Nat → Int32} {e : Nat} {x : Int32} (hn : nc ≤ 500) : (sFi nc cv e x = -1 ↔ cfx nc cv e x = false) ∧ (sFi nc cv e x ≠ -1 ↔ cfx nc cv e x = true) := by
  unfold sFi cfx
  generalize zff (fun k => decide (pc (x &&& (cv k ^^^ -1)) ≤ e)) nc 0 = z
  by_cases h : z < nc
  · rw [if_pos h, decide_eq_true h]
    exact ⟨⟨fun q => absurd q (fun q => (nM1 _ (by omega)).mp q), fun q => (by cases q)⟩, ⟨fun _ => rfl, fun _ q => (nM1 _ (by omega)).mp q⟩⟩
  · rw [if_neg h, decide_eq_false h]
    exact ⟨⟨fun _ => rfl, fun _ => rfl⟩, ⟨fun q => absurd rfl q, fun q => (by cases q)⟩⟩
theorem cfx_iff {nc : Nat} {cv : Nat → Int32} {e : Nat} {x : Int32} : cfx nc cv e x = true ↔ ∃ k, k < nc ∧ pc (x &&& (cv k ^^^ -1)) ≤ e := by
  unfold cfx
  rw [decide_eq_true_eq]
  constructor
  · intro h
    have := zff_yes (fun k => decide (pc (x &&& (cv k ^^^ -1)) ≤ e)) nc 0 (by omega)
    exact ⟨_, h, decide_eq_true_eq.mp this⟩
  · rintro ⟨k, hk, h⟩
    rcases Nat.lt_or_ge (zff (fun k => decide (pc (x &&& (cv k ^^^ -1)) ≤ e)) nc 0) nc with g | g
    · exact g
    · have := zff_no (fun k => decide (pc (x &&& (cv k ^^^ -1)) ≤ e)) nc 0 k (by omega) (by omega)
      rw [decide_eq_false_iff_not] at this
      exact absurd h this
theorem cfx_cong {nc : Nat} {cv cw : Nat → Int32} {e : Nat} {x : Int32} (h : ∀ k, k < nc → cv k = cw k) : cfx nc cv e x = cfx nc cw e x := by
  unfold cfx
  rw [zff_cong fun k _ h2 => by rw [h k (by omega)]]
