/-! THE MATHEMATICS: what a function answers, loops, frames, small ints -/
def zok {β : Type} (o : Option β) (Q : β → Prop) : Prop := ∃ b, o = some b ∧ Q b
theorem zok_some {β : Type} {b : β} {Q : β → Prop} : zok (some b) Q ↔ Q b := ⟨fun ⟨_, e, h⟩ => (by cases e; exact h), fun h => ⟨b, rfl, h⟩⟩
theorem zok_bind {α β : Type} {o : Option α} {f : α → Option β} {Q : β → Prop} : zok (o.bind f) Q ↔ zok o (fun a => zok (f a) Q) := by
  cases o with
  | none => exact ⟨fun ⟨_, e, _⟩ => (by cases e), fun ⟨_, e, _⟩ => (by cases e)⟩
  | some a => exact ⟨fun h => ⟨a, rfl, h⟩, fun ⟨_, e, h⟩ => (by cases e; exact h)⟩
theorem zok.mono {β : Type} {o : Option β} {Q R : β → Prop} (h : zok o Q) (k : ∀ b, Q b → R b) : zok o R := by
  obtain ⟨b, e, q⟩ := h
  exact ⟨b, e, k b q⟩
theorem zok.bind {α β : Type} {o : Option α} {f : α → Option β} {P : α → Prop} {Q : β → Prop} (h : zok o P) (k : ∀ a, P a → zok (f a) Q) : zok (o.bind f) Q := zok_bind.mpr (h.mono k)
theorem zok.eq {β : Type} {o : Option β} {b : β} (h : zok o (fun x => x = b)) : o = some b := by
  obtain ⟨c, e, rfl⟩ := h
  exact e
theorem zok_iff {β : Type} {o : Option β} {b : β} {Q : β → Prop} (h : o = some b) : zok o Q ↔ Q b := by rw [h, zok_some]
theorem zlet_eq {α β : Type} (a : α) (f : α → β) : zlet a f = f a := rfl
theorem zck_nI {α : Type} {i N : Nat} {a : Option α} (h : i < N) (hN : N < 2147483648) : zck (nI i) N a = a := if_neg (nI_in h hN)
theorem zdv_nI {α : Type} {i : Nat} {a : Option α} (h0 : 0 < i) (h : i < 2147483648) : zdv (nI i) a = a := if_neg (nI_ne0 h0 h)
theorem zdv_k {α : Type} (k : Nat) {a : Option α} (h0 : 0 < (OfNat.ofNat k : Nat)) (h : (OfNat.ofNat k : Nat) < 2147483648) : zdv (OfNat.ofNat k : Int32) a = a := if_neg (nI_ne0 h0 h)
theorem zcb_0 {α : Type} {a : Option α} : zcb 0 a = a := if_pos (Or.inl rfl)
theorem zcb_1 {α : Type} {a : Option α} : zcb 1 a = a := if_pos (Or.inr rfl)
/-! a loop over i from i to N: its answer by an invariant; folded; with a way out -/
theorem z_inv {σ β : Type} (N : Nat) (L : Nat → Nat → σ → Option β) (I : Nat → σ → Prop) (Q : β → Prop)
    (hs : ∀ n i s, i < N → I i s → (∀ t, I (i + 1) t → zok (L n (i + 1) t) Q) → zok (L (n + 1) i s) Q)
    (he : ∀ n s, I N s → zok (L (n + 1) N s) Q) : ∀ i n s, i ≤ N → N - i < n → I i s → zok (L n i s) Q := by
  have key : ∀ m i n s, i + m = N → m < n → I i s → zok (L n i s) Q := by
    intro m
    induction m with
    | zero =>
      intro i n s h1 h2 h3
      obtain ⟨n, rfl⟩ : ∃ k, n = k + 1 := ⟨n - 1, by omega⟩
      obtain rfl : i = N := by omega
      exact he n s h3
    | succ m ih =>
      intro i n s h1 h2 h3
      obtain ⟨n, rfl⟩ : ∃ k, n = k + 1 := ⟨n - 1, by omega⟩
      exact hs n i s (by omega) h3 fun t ht => ih (i + 1) n t (by omega) (by omega) ht
  intro i n s h1 h2 h3
  exact key (N - i) i n s (by omega) h2 h3
/-- a loop by a measure -/
theorem z_mea {σ β : Type} (L : Nat → σ → Option β) (I : σ → Prop) (m : σ → Nat) (Q : β → Prop)
    (hs : ∀ n s, I s → (∀ t, I t → m t < m s → zok (L n t) Q) → zok (L (n + 1) s) Q) : ∀ n s, m s < n → I s → zok (L n s) Q := by
  intro n
  induction n with
  | zero => intro s h _; omega
  | succ n ih => intro s h hI; exact hs n s hI fun t ht hm => ih t (by omega) ht
def zfo {σ : Type} (f : Nat → σ → σ) : Nat → Nat → σ → σ
  | 0, _, s => s
  | m + 1, i, s => zfo f m (i + 1) (f i s)
theorem zfo_cong {σ : Type} {f g : Nat → σ → σ} : ∀ {m i : Nat} {s : σ}, (∀ k s, i ≤ k → k < i + m → f k s = g k s) → zfo f m i s = zfo g m i s
  | 0, _, _, _ => rfl
  | m + 1, i, s, h => by
    rw [zfo, zfo, h i s (by omega) (by omega)]
    exact zfo_cong fun k s h1 h2 => h k s (by omega) (by omega)
theorem zfo_last {σ : Type} (f : Nat → σ → σ) : ∀ (m i : Nat) (s : σ), zfo f (m + 1) i s = f (i + m) (zfo f m i s)
  | 0, _, _ => rfl
  | m + 1, i, s => by
    rw [zfo, zfo_last f m (i + 1) (f i s), zfo, show i + 1 + m = i + (m + 1) by omega]
theorem zfo_inv {σ : Type} {f : Nat → σ → σ} (I : Nat → σ → Prop) {N : Nat} (h : ∀ k s, k < N → I k s → I (k + 1) (f k s)) : ∀ {m i : Nat} {s : σ}, i + m = N → I i s → I N (zfo f m i s)
  | 0, i, s, e, hi => by
    obtain rfl : i = N := by omega
    exact hi
  | m + 1, i, s, e, hi => by
    rw [zfo]
    exact zfo_inv I h (by omega) (h i s (by omega) hi)
theorem z_for {σ β : Type} (N : Nat) (L : Nat → Nat → σ → Option β) (f : Nat → σ → σ) (fin : σ → Option β)
    (hs : ∀ n i s, i < N → L (n + 1) i s = L n (i + 1) (f i s)) (he : ∀ n s, L (n + 1) N s = fin s) :
    ∀ i n s, i ≤ N → N - i < n → L n i s = fin (zfo f (N - i) i s) := by
  have key : ∀ m i n s, i + m = N → m < n → L n i s = fin (zfo f m i s) := by
    intro m
    induction m with
    | zero =>
      intro i n s h1 h2
      obtain ⟨n, rfl⟩ : ∃ k, n = k + 1 := ⟨n - 1, by omega⟩
      obtain rfl : i = N := by omega
      exact he n s
    | succ m ih =>
      intro i n s h1 h2
      obtain ⟨n, rfl⟩ : ∃ k, n = k + 1 := ⟨n - 1, by omega⟩
      rw [hs n i s (by omega), ih (i + 1) n _ (by omega) (by omega), zfo]
  intro i n s h1 h2
  exact key (N - i) i n s (by omega) h2
/-- the first i with p among m from i on; i + m without -/
def zff (p : Nat → Bool) : Nat → Nat → Nat
  | 0, i => i
  | m + 1, i => if p i then i else zff p m (i + 1)
theorem zff_cong {p q : Nat → Bool} : ∀ {m i : Nat}, (∀ k, i ≤ k → k < i + m → p k = q k) → zff p m i = zff q m i
  | 0, _, _ => rfl
  | m + 1, i, h => by
    rw [zff, zff, h i (by omega) (by omega), zff_cong fun k h1 h2 => h k (by omega) (by omega)]
theorem zff_le (p : Nat → Bool) : ∀ m i, i ≤ zff p m i ∧ zff p m i ≤ i + m
  | 0, i => ⟨Nat.le_refl _, Nat.le_refl _⟩
  | m + 1, i => by
    rw [zff]
    split
    · omega
    · have := zff_le p m (i + 1)
      omega
theorem zff_no (p : Nat → Bool) : ∀ m i k, i ≤ k → k < zff p m i → p k = false
  | 0, i, k, h1, h2 => by rw [zff] at h2; omega
  | m + 1, i, k, h1, h2 => by
    rw [zff] at h2
    split at h2
    · omega
    · rename_i hp
      rcases Nat.eq_or_lt_of_le h1 with e | e
      · subst e
        simpa using hp
      · exact zff_no p m (i + 1) k e h2
theorem zff_yes (p : Nat → Bool) : ∀ m i, zff p m i < i + m → p (zff p m i) = true
  | 0, i, h => by rw [zff] at h; omega
  | m + 1, i, h => by
    rw [zff] at h ⊢
    split
    · assumption
    · rename_i hp
      rw [if_neg hp] at h
      exact zff_yes p m (i + 1) (by omega)
theorem zff_one {p : Nat → Bool} {m i k : Nat} (h1 : i ≤ k) (h2 : k < i + m) (hk : p k = true) (hn : ∀ j, i ≤ j → j < k → p j = false) : zff p m i = k := by
  have a := zff_le p m i
  rcases Nat.lt_trichotomy (zff p m i) k with h | h | h
  · have := zff_yes p m i (by omega)
    rw [hn _ a.1 h] at this
    cases this
  · exact h
  · have := zff_no p m i k h1 h
    rw [hk] at this
    cases this
theorem zff_none {p : Nat → Bool} {m i : Nat} (hn : ∀ j, i ≤ j → j < i + m → p j = false) : zff p m i = i + m := by
  have a := zff_le p m i
  rcases Nat.lt_or_ge (zff p m i) (i + m) with h | h
  · have := zff_yes p m i h
    rw [hn _ a.1 h] at this
    cases this
  · omega
theorem z_find {β : Type} (N : Nat) (L : Nat → Nat → Option β) (p : Nat → Bool) (r : Nat → Option β) (fin : Option β)
    (hs : ∀ n i, i < N → L (n + 1) i = if p i then r i else L n (i + 1)) (he : ∀ n, L (n + 1) N = fin) :
    ∀ i n, i ≤ N → N - i < n → L n i = if zff p (N - i) i < N then r (zff p (N - i) i) else fin := by
  have key : ∀ m i n, i + m = N → m < n → L n i = if zff p m i < N then r (zff p m i) else fin := by
    intro m
    induction m with
    | zero =>
      intro i n h1 h2
      obtain ⟨n, rfl⟩ : ∃ k, n = k + 1 := ⟨n - 1, by omega⟩
      obtain rfl : i = N := by omega
      rw [he n, zff, if_neg (by omega)]
    | succ m ih =>
      intro i n h1 h2
      obtain ⟨n, rfl⟩ : ∃ k, n = k + 1 := ⟨n - 1, by omega⟩
      rw [hs n i (by omega), ih (i + 1) n (by omega) (by omega), zff]
      by_cases hp : p i = true
      · rw [if_pos hp, if_pos hp, if_pos (by omega)]
      · rw [if_neg hp, if_neg hp]
  intro i n h1 h2
  exact key (N - i) i n (by omega) h2
/-! frames: the objects that may change -/
def fr (L : List Nat) (D E : zD) : Prop := ∀ a, a ∉ L → E.1 a = D.1 a ∧ E.2 a = D.2 a
theorem fr.refl {L : List Nat} {D : zD} : fr L D D := fun _ _ => ⟨rfl, rfl⟩
theorem fr.trans {L : List Nat} {D E F : zD} (h : fr L D E) (k : fr L E F) : fr L D F := fun a ha => ⟨(k a ha).1.trans (h a ha).1, (k a ha).2.trans (h a ha).2⟩
theorem fr.sub {L M : List Nat} {D E : zD} (h : fr L D E) (k : ∀ a ∈ L, a ∈ M) : fr M D E := fun a ha => h a fun q => ha (k a q)
theorem fr.g {L : List Nat} {D E : zD} (h : fr L D E) {a : Nat} (ha : a ∉ L) (b : Nat) : gI E a b = gI D a b := congrFun (h a ha).2 b
theorem fr.gl {L : List Nat} {D E : zD} (h : fr L D E) {a : Nat} (ha : a ∉ L) (b : Nat) : gL E a b = gL D a b := congrFun (h a ha).1 b
theorem fr.sI {L : List Nat} {D E : zD} (h : fr L D E) {k : Nat} (hk : k ∈ L) {j : Nat} {x : Int32} : fr L D (sI E k j x) := fun a ha => by
  have e : a ≠ k := fun q => ha (q ▸ hk)
  exact ⟨(h a ha).1, (sI_ne e).trans (h a ha).2⟩
theorem fr.sL {L : List Nat} {D E : zD} (h : fr L D E) {k : Nat} (hk : k ∈ L) {j : Nat} {x : Int64} : fr L D (sL E k j x) := fun a ha => by
  have e : a ≠ k := fun q => ha (q ▸ hk)
  exact ⟨(sL_ne e).trans (h a ha).1, (h a ha).2⟩
theorem fr.sC {L : List Nat} {D E : zD} (h : fr L D E) {k0 k : Nat} (hk : k ∈ L) {sp dp n : Nat} : fr L D (sC E k0 k sp dp n) := fun a ha => by
  have e : a ≠ k := fun q => ha (q ▸ hk)
  refine ⟨(h a ha).1, Eq.trans ?_ (h a ha).2⟩
  funext b
  exact if_neg e
theorem gI_eq {D : zD} {k j : Nat} {x : Int32} : gI (sI D k j x) k j = x := if_pos ⟨rfl, rfl⟩
theorem gI_na {D : zD} {k j a b : Nat} {x : Int32} (h : a ≠ k) : gI (sI D k j x) a b = gI D a b := if_neg fun q => h q.1
theorem gI_nb {D : zD} {k j a b : Nat} {x : Int32} (h : b ≠ j) : gI (sI D k j x) a b = gI D a b := if_neg fun q => h q.2
theorem gI_if {D : zD} {k j b : Nat} {x : Int32} : gI (sI D k j x) k b = if b = j then x else gI D k b := by
  by_cases h : b = j
  · subst h; rw [gI_eq, if_pos rfl]
  · rw [gI_nb h, if_neg h]
theorem gI_l {D : zD} {k j a b : Nat} {x : Int64} : gI (sL D k j x) a b = gI D a b := rfl
theorem gL_i {D : zD} {k j a b : Nat} {x : Int32} : gL (sI D k j x) a b = gL D a b := rfl
theorem gL_eq {D : zD} {k j : Nat} {x : Int64} : gL (sL D k j x) k j = x := if_pos ⟨rfl, rfl⟩
theorem gL_na {D : zD} {k j a b : Nat} {x : Int64} (h : a ≠ k) : gL (sL D k j x) a b = gL D a b := if_neg fun q => h q.1
theorem gL_nb {D : zD} {k j a b : Nat} {x : Int64} (h : b ≠ j) : gL (sL D k j x) a b = gL D a b := if_neg fun q => h q.2
theorem gL_if {D : zD} {k j b : Nat} {x : Int64} : gL (sL D k j x) k b = if b = j then x else gL D k b := by
  by_cases h : b = j
  · subst h; rw [gL_eq, if_pos rfl]
  · rw [gL_nb h, if_neg h]
theorem sC_na {D : zD} {k0 k1 sp dp n a b : Nat} (h : a ≠ k1) : gI (sC D k0 k1 sp dp n) a b = gI D a b := if_neg h
theorem sC_eq {D : zD} {k0 k1 n b : Nat} : gI (sC D k0 k1 0 0 n) k1 b = if b < n then gI D k0 b else gI D k1 b := by
  show (if k1 = k1 then _ else _) = _
  rw [if_pos rfl]
  simp [va_cpy, gI]
theorem sC_l {D : zD} {k0 k1 sp dp n a b : Nat} : gL (sC D k0 k1 sp dp n) a b = gL D a b := rfl
/-! ints that are numbers -/
theorem nLe (a b : Nat) (ha : a < 2147483648) (hb : b < 2147483648) : nI a ≤ nI b ↔ a ≤ b := nI_leI ha hb
theorem nLt (a b : Nat) (ha : a < 2147483648) (hb : b < 2147483648) : nI a < nI b ↔ a < b := nI_ltI ha hb
theorem nEq (a b : Nat) (ha : a < 2147483648) (hb : b < 2147483648) : nI a = nI b ↔ a = b := nI_eq ha hb
theorem kLe (a b : Nat) (ha : (OfNat.ofNat a : Nat) < 2147483648) (hb : b < 2147483648) : (OfNat.ofNat a : Int32) ≤ nI b ↔ (OfNat.ofNat a : Nat) ≤ b := nI_leI ha hb
theorem kLt (a b : Nat) (ha : (OfNat.ofNat a : Nat) < 2147483648) (hb : b < 2147483648) : (OfNat.ofNat a : Int32) < nI b ↔ (OfNat.ofNat a : Nat) < b := nI_ltI ha hb
theorem kEq (a b : Nat) (ha : (OfNat.ofNat a : Nat) < 2147483648) (hb : b < 2147483648) : (OfNat.ofNat a : Int32) = nI b ↔ (OfNat.ofNat a : Nat) = b := nI_eq ha hb
theorem lEk (a b : Nat) (ha : a < 2147483648) (hb : (OfNat.ofNat b : Nat) < 2147483648) : nI a ≤ (OfNat.ofNat b : Int32) ↔ a ≤ (OfNat.ofNat b : Nat) := nI_leI ha hb
theorem lTk (a b : Nat) (ha : a < 2147483648) (hb : (OfNat.ofNat b : Nat) < 2147483648) : nI a < (OfNat.ofNat b : Int32) ↔ a < (OfNat.ofNat b : Nat) := nI_ltI ha hb
theorem eQk (a b : Nat) (ha : a < 2147483648) (hb : (OfNat.ofNat b : Nat) < 2147483648) : nI a = (OfNat.ofNat b : Int32) ↔ a = (OfNat.ofNat b : Nat) := nI_eq ha hb
theorem nAk (a b : Nat) : nI a + (OfNat.ofNat b : Int32) = nI (a + (OfNat.ofNat b : Nat)) := nI_add a _
theorem kAn (a b : Nat) : (OfNat.ofNat a : Int32) + nI b = nI ((OfNat.ofNat a : Nat) + b) := nI_add _ b
theorem nMk (a b : Nat) : nI a * (OfNat.ofNat b : Int32) = nI (a * (OfNat.ofNat b : Nat)) := pk_mul a _
theorem kMn (a b : Nat) : (OfNat.ofNat a : Int32) * nI b = nI ((OfNat.ofNat a : Nat) * b) := pk_mul _ b
theorem nSk (a b : Nat) (h : (OfNat.ofNat b : Nat) ≤ a) : nI a - (OfNat.ofNat b : Int32) = nI (a - (OfNat.ofNat b : Nat)) := pk_sub h
theorem kSn (a b : Nat) (h : b ≤ (OfNat.ofNat a : Nat)) : (OfNat.ofNat a : Int32) - nI b = nI ((OfNat.ofNat a : Nat) - b) := pk_sub h
theorem nSn (a b : Nat) (h : b ≤ a) : nI a - nI b = nI (a - b) := pk_sub h
theorem nDk (a b : Nat) (ha : a < 2147483648) (h0 : 0 < (OfNat.ofNat b : Nat)) (hb : (OfNat.ofNat b : Nat) < 2147483648) : nI a / (OfNat.ofNat b : Int32) = nI (a / (OfNat.ofNat b : Nat)) := pk_div ha h0 hb
theorem nDn (a b : Nat) (ha : a < 2147483648) (h0 : 0 < b) (hb : b < 2147483648) : nI a / nI b = nI (a / b) := pk_div ha h0 hb
theorem nRk (a b : Nat) (ha : a < 2147483648) (h0 : 0 < (OfNat.ofNat b : Nat)) (hb : (OfNat.ofNat b : Nat) < 2147483648) : nI a - nI a / (OfNat.ofNat b : Int32) * (OfNat.ofNat b : Int32) = nI (a % (OfNat.ofNat b : Nat)) := pk_rem ha h0 hb
theorem nRn (a b : Nat) (ha : a < 2147483648) (h0 : 0 < b) (hb : b < 2147483648) : nI a - nI a / nI b * nI b = nI (a % b) := pk_rem ha h0 hb
theorem nCl (a : Nat) (ha : a < 2147483648) : (nI a).toNatClampNeg = a := nI_clamp ha
theorem nM1 (a : Nat) (ha : a < 2147483648) : nI a = (-1 : Int32) ↔ False := iff_false_intro fun e => by
  have h1 : (nI a).toInt = (-1 : Int32).toInt := by rw [e]
  rw [nI_toInt ha, show (-1 : Int32).toInt = -1 from rfl] at h1
  omega
theorem m1N (a : Nat) (ha : a < 2147483648) : (-1 : Int32) = nI a ↔ False := by rw [eq_comm]; exact nM1 a ha
theorem nNeg (a : Nat) (ha : a < 2147483648) : nI a < 0 ↔ False := iff_false_intro (nI_pos ha)
theorem m1Lt (a : Nat) (ha : a < 2147483648) : (-1 : Int32) < nI a ↔ True := iff_true_intro (by
  rw [fa_lt, nI_toInt ha, show (-1 : Int32).toInt = -1 from rfl]; omega)
theorem nLm1 (a : Nat) (ha : a < 2147483648) : nI a ≤ (-1 : Int32) ↔ False := iff_false_intro (by
  rw [fa_le, nI_toInt ha, show (-1 : Int32).toInt = -1 from rfl]; omega)
theorem zmn_n (a b : Nat) (ha : a < 2147483648) (hb : b < 2147483648) : zmn (nI a) (nI b) = nI (min a b) := by
  unfold zmn
  by_cases h : b < a
  · rw [if_pos ((nLt _ _ hb ha).mpr h), Nat.min_eq_right (by omega)]
  · rw [if_neg (fun q => h ((nLt _ _ hb ha).mp q)), Nat.min_eq_left (by omega)]
theorem zmx_n (a b : Nat) (ha : a < 2147483648) (hb : b < 2147483648) : zmx (nI a) (nI b) = nI (max a b) := by
  unfold zmx
  by_cases h : a < b
  · rw [if_pos ((nLt _ _ ha hb).mpr h), Nat.max_eq_right (by omega)]
  · rw [if_neg (fun q => h ((nLt _ _ ha hb).mp q)), Nat.max_eq_left (by omega)]
theorem L_2 : (2 : Int32) = nI 2 := rfl
theorem L_3 : (3 : Int32) = nI 3 := rfl
theorem L_4 : (4 : Int32) = nI 4 := rfl
theorem L_5 : (5 : Int32) = nI 5 := rfl
theorem L_6 : (6 : Int32) = nI 6 := rfl
theorem L_7 : (7 : Int32) = nI 7 := rfl
theorem L_8 : (8 : Int32) = nI 8 := rfl
theorem L_9 : (9 : Int32) = nI 9 := rfl
theorem L_10 : (10 : Int32) = nI 10 := rfl
theorem L_12 : (12 : Int32) = nI 12 := rfl
theorem L_13 : (13 : Int32) = nI 13 := rfl
theorem L_20 : (20 : Int32) = nI 20 := rfl
theorem L_24 : (24 : Int32) = nI 24 := rfl
theorem L_25 : (25 : Int32) = nI 25 := rfl
theorem L_26 : (26 : Int32) = nI 26 := rfl
theorem L_27 : (27 : Int32) = nI 27 := rfl
theorem L_30 : (30 : Int32) = nI 30 := rfl
theorem L_32 : (32 : Int32) = nI 32 := rfl
theorem L_33 : (33 : Int32) = nI 33 := rfl
theorem L_34 : (34 : Int32) = nI 34 := rfl
theorem L_40 : (40 : Int32) = nI 40 := rfl
theorem L_48 : (48 : Int32) = nI 48 := rfl
theorem L_57 : (57 : Int32) = nI 57 := rfl
theorem L_58 : (58 : Int32) = nI 58 := rfl
theorem L_60 : (60 : Int32) = nI 60 := rfl
theorem L_64 : (64 : Int32) = nI 64 := rfl
theorem L_90 : (90 : Int32) = nI 90 := rfl
theorem L_93 : (93 : Int32) = nI 93 := rfl
theorem L_97 : (97 : Int32) = nI 97 := rfl
theorem L_99 : (99 : Int32) = nI 99 := rfl
theorem L_100 : (100 : Int32) = nI 100 := rfl
theorem L_122 : (122 : Int32) = nI 122 := rfl
theorem L_144 : (144 : Int32) = nI 144 := rfl
theorem L_255 : (255 : Int32) = nI 255 := rfl
theorem L_364 : (364 : Int32) = nI 364 := rfl
theorem L_480 : (480 : Int32) = nI 480 := rfl
theorem L_500 : (500 : Int32) = nI 500 := rfl
theorem L_800 : (800 : Int32) = nI 800 := rfl
theorem L_1000 : (1000 : Int32) = nI 1000 := rfl
theorem L_100000 : (100000 : Int32) = nI 100000 := rfl
theorem L_4096 : (4096 : Int32) = nI 4096 := rfl
theorem L_1023 : (1023 : Int32) = nI 1023 := rfl
theorem L_1024 : (1024 : Int32) = nI 1024 := rfl
theorem nLe0 (a : Nat) (ha : a < 2147483648) : nI a ≤ 0 ↔ a = 0 := by rw [← nI_0, nLe _ _ ha (by omega)]; omega
theorem n0Lt (a : Nat) (ha : a < 2147483648) : 0 < nI a ↔ 0 < a := by rw [← nI_0, nLt _ _ (by omega) ha]
theorem nEq0 (a : Nat) (ha : a < 2147483648) : nI a = 0 ↔ a = 0 := by rw [← nI_0, nEq _ _ ha (by omega)]
theorem nS1 (a : Nat) (ha : 1 ≤ a) : nI a - 1 = nI (a - 1) := pk_sub (b := 1) ha
theorem i10 : ((1 : Int32) = 0) = False := eq_false (by decide)
theorem i01 : ((0 : Int32) = 1) = False := eq_false (by decide)
theorem nEq1 (a : Nat) (ha : a < 2147483648) : nI a = 1 ↔ a = 1 := nEq a 1 ha (by omega)
theorem n1Eq (a : Nat) (ha : a < 2147483648) : (1 : Int32) = nI a ↔ 1 = a := nEq 1 a (by omega) ha
theorem nLt1 (a : Nat) (ha : a < 2147483648) : nI a < 1 ↔ a < 1 := nLt a 1 ha (by omega)
theorem x_bad0 {D : zD} {t : Int32} (h : gI D 102 0 = 0) : fn_X12_bad 0 t D = some (0, D) := by
  unfold fn_X12_bad fn_X12_bad_16
  rw [if_pos rfl, if_pos h]
theorem x_bad1 {D : zD} {t : Int32} (h : gI D 102 0 = 0) (ht : t ≠ 0) : fn_X12_bad 1 t D = some (1, sI D 102 0 t) := by
  unfold fn_X12_bad fn_X12_bad_16
  rw [if_neg (by decide), if_pos h, zlet_eq, if_neg (by rw [gI_eq]; exact ht)]
theorem x_badF {E : zD} {t : Int32} : fn_X12_bad 0 t (sI E 102 0 0) = some (0, sI E 102 0 0) := x_bad0 gI_eq
theorem x_badT1 {E : zD} : fn_X12_bad 1 1 (sI E 102 0 0) = some (1, sI (sI E 102 0 0) 102 0 1) := x_bad1 gI_eq (by decide)
theorem x_badT2 {E : zD} : fn_X12_bad 1 (nI 2) (sI E 102 0 0) = some (1, sI (sI E 102 0 0) 102 0 (nI 2)) := x_bad1 gI_eq (by decide)
