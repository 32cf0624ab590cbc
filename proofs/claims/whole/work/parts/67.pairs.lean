/-! THE MATHEMATICS: pairs counted -/
theorem pst_ind {f : Nat → Nat → Bool} {g : Nat → Nat → Bool} {n : Nat} (h : ∀ i j, i < n → j < i → f i j = g i j) : prs n f = prs n g := fb_sm_cong fun i hi => fb_ct_cong fun j hj => h i j hi hj
/-- one pair a > b is told otherwise -/
theorem prs_upd {f g : Nat → Nat → Bool} {n a b : Nat} (ha : a < n) (hba : b < a) (h : ∀ i j, i < n → j < i → ¬ (i = a ∧ j = b) → g i j = f i j) : prs n g + (if f a b then 1 else 0) = prs n f + (if g a b then 1 else 0) := by
  have e1 : prs n g = fb_sm (fun k => if k = a then fb_ct (fun j => g a j) a else fb_ct (fun j => f k j) k) n := by
    refine fb_sm_cong fun i hi => ?_
    by_cases e : i = a
    · subst e; rw [if_pos rfl]
    · rw [if_neg e]
      exact fb_ct_cong fun j hj => h i j hi hj (by omega)
  have e2 := fb_sm_upd (fun k => fb_ct (fun j => f k j) k) (fb_ct (fun j => g a j) a) ha
  have e3 : fb_ct (fun j => g a j) a = fb_ct (fun j => if j = b then g a b else f a j) a := by
    refine fb_ct_cong fun j hj => ?_
    by_cases e : j = b
    · subst e; rw [if_pos rfl]
    · rw [if_neg e]; exact h a j ha hj (by omega)
  have e4 := fb_ct_upd (fun j => f a j) (g a b) hba
  have e5 : prs n f = fb_sm (fun k => fb_ct (fun j => f k j) k) n := rfl
  have e6 : fb_ct (fun j => f a j) a = (fun k => fb_ct (fun j => f k j) k) a := rfl
  rw [e1, e5]
  rw [← e3] at e4
  omega
/-- f with the pairs of s taken out -/
def cut (f : Nat → Nat → Bool) (s : Nat) : Nat → Nat → Bool := fun i j => f i j && decide (i ≠ s ∧ j ≠ s)
def cutTo (f : Nat → Nat → Bool) (s m : Nat) : Nat → Nat → Bool := fun i j => f i j && decide (¬ (i = s ∧ j < m) ∧ ¬ (j = s ∧ i < m))
theorem cutTo_eq {f : Nat → Nat → Bool} {s m k i j : Nat} (h : (¬ (i = s ∧ j < m) ∧ ¬ (j = s ∧ i < m)) ↔ (¬ (i = s ∧ j < k) ∧ ¬ (j = s ∧ i < k))) : cutTo f s m i j = cutTo f s k i j := by
  unfold cutTo
  rw [decide_eq_decide.mpr h]
theorem prs_cutTo {f : Nat → Nat → Bool} {n s : Nat} (hs : s < n) (hsym : ∀ i j, f i j = f j i) (hd : f s s = false) : ∀ m, m ≤ n → prs n f = prs n (cutTo f s m) + fb_ct (f s) m := by
  intro m
  induction m with
  | zero =>
    intro _
    have : prs n (cutTo f s 0) = prs n f := pst_ind fun i j _ _ => by unfold cutTo; rw [decide_eq_true (by omega), Bool.and_true]
    rw [this]
    rfl
  | succ m ih =>
    intro hm
    have h1 := ih (by omega)
    rw [fb_ct_succ]
    rcases Nat.lt_trichotomy m s with g | g | g
    · have h2 := prs_upd (f := cutTo f s m) (g := cutTo f s (m + 1)) hs g (fun i j hi hj hne => cutTo_eq (by omega))
      have e1 : cutTo f s m s m = f s m := by unfold cutTo; rw [decide_eq_true (by omega), Bool.and_true]
      have e2 : cutTo f s (m + 1) s m = false := by unfold cutTo; rw [decide_eq_false (by omega), Bool.and_false]
      rw [e1, e2, if_neg (show ¬ (false = true) by decide)] at h2
      omega
    · subst g
      have : prs n (cutTo f m (m + 1)) = prs n (cutTo f m m) := pst_ind fun i j hi hj => cutTo_eq (by omega)
      rw [this, hd]
      exact h1
    · have h2 := prs_upd (f := cutTo f s m) (g := cutTo f s (m + 1)) (a := m) (b := s) (n := n) (by omega) g (fun i j hi hj hne => cutTo_eq (by omega))
      have e1 : cutTo f s m m s = f s m := by unfold cutTo; rw [hsym m s, decide_eq_true (by omega), Bool.and_true]
      have e2 : cutTo f s (m + 1) m s = false := by unfold cutTo; rw [decide_eq_false (by omega), Bool.and_false]
      rw [e1, e2, if_neg (show ¬ (false = true) by decide)] at h2
      omega
theorem prs_cut {f : Nat → Nat → Bool} {n s : Nat} (hs : s < n) (hsym : ∀ i j, f i j = f j i) (hd : f s s = false) : prs n f = prs n (cut f s) + fb_ct (f s) n := by
  rw [prs_cutTo hs hsym hd n (Nat.le_refl _)]
  congr 1
  refine pst_ind fun i j hi hj => ?_
  unfold cutTo cut
  have e : (¬ (i = s ∧ j < n) ∧ ¬ (j = s ∧ i < n)) ↔ (i ≠ s ∧ j ≠ s) := by omega
  rw [decide_eq_decide.mpr e]
theorem prs_zero {f : Nat → Nat → Bool} {n : Nat} : prs n f = 0 ↔ ∀ i j, i < n → j < i → f i j = false := by
  constructor
  · intro h i j hi hj
    exact fb_ct_zero.mp (fb_sm_zero h i hi) j hj
  · intro h
    have : prs n f = fb_sm (fun _ => 0) n := fb_sm_cong fun i hi => fb_ct_zero.mpr fun j hj => h i j hi hj
    rw [this, fb_sm_const]
    omega
theorem prs_le {f : Nat → Nat → Bool} {n : Nat} (hn : n ≤ 12) : prs n f ≤ 144 := by
  have : prs n f ≤ n * 12 := fb_sm_bound fun k hk => Nat.le_trans (fb_ct_le _ _) (by omega)
  omega
/-- counted the other way: j > i -/
theorem prs_up {f : Nat → Nat → Bool} (hsym : ∀ i j, f i j = f j i) : ∀ n, fb_sm (fun i => fb_ct (fun k => f i (i + 1 + k)) (n - (i + 1))) n = prs n f := by
  intro n
  induction n with
  | zero => rfl
  | succ n ih =>
    unfold prs at ih ⊢
    rw [fb_sm_succ, fb_sm_succ, ← ih]
    have e1 : fb_sm (fun i => fb_ct (fun k => f i (i + 1 + k)) (n + 1 - (i + 1))) n = fb_sm (fun i => fb_ct (fun k => f i (i + 1 + k)) (n - (i + 1)) + (if f n i then 1 else 0)) n := by
      refine fb_sm_cong fun i hi => ?_
      rw [show n + 1 - (i + 1) = (n - (i + 1)) + 1 by omega, fb_ct_succ, show i + 1 + (n - (i + 1)) = n by omega, hsym i n]
    rw [e1, fb_sm_add, show n + 1 - (n + 1) = 0 by omega]
    have e2 : ∀ m, fb_sm (fun i => if f n i then 1 else 0) m = fb_ct (fun i => f n i) m := by
      intro m
      induction m with
      | zero => rfl
      | succ m ih => rw [fb_sm_succ, fb_ct_succ, ih]
    rw [e2]
    rfl
section M67
variable {nc e : Nat} {cv : Nat → Int32}
theorem cfp_sym (pt : Nat → Int32) (i j : Nat) : cfp nc cv e pt i j = cfp nc cv e pt j i := by unfold cfp; rw [Int32.xor_comm]
/-- one bit of x is changed -/
theorem pc_flip {x c : Int32} {i : Nat} (hi : i < 32) : pc ((x ^^^ bit1 i) &&& (c ^^^ -1)) = if bt c i = true then pc (x &&& (c ^^^ -1)) else if bt x i = true then pc (x &&& (c ^^^ -1)) - 1 else pc (x &&& (c ^^^ -1)) + 1 := by
  have h1 : pc ((x ^^^ bit1 i) &&& (c ^^^ -1)) = fb_ct (fun k => if k = i then (!bt x i && !bt c i) else bt (x &&& (c ^^^ -1)) k) 32 := by
    refine fb_ct_cong fun k hk => ?_
    rw [b_and, b_xor, bt_bit1 i hi k hk, bt_not _ hk, b_and, bt_not _ hk]
    by_cases e : k = i
    · subst e; simp
    · simp [e]
  have h2 := fb_ct_upd (bt (x &&& (c ^^^ -1))) (!bt x i && !bt c i) hi
  rw [h1]
  have h3 : bt (x &&& (c ^^^ -1)) i = (bt x i && !bt c i) := by rw [b_and, bt_not _ hi]
  rw [h3] at h2
  have h4 : pc (x &&& (c ^^^ -1)) = fb_ct (bt (x &&& (c ^^^ -1))) 32 := rfl
  rw [h4]
  cases hx : bt x i <;> cases hc : bt c i <;> simp [hx, hc] at h2 ⊢ <;> omega
/-- by one cover, with the cell i of x changed -/
theorem cf_flip {x c : Int32} {i e : Nat} (hi : i < 32) : pc ((x ^^^ bit1 i) &&& (c ^^^ -1)) ≤ e ↔ (pc (x &&& (c ^^^ -1)) < e ∨ (pc (x &&& (c ^^^ -1)) = e ∧ (bt c i = true ∨ bt x i = true)) ∨ (pc (x &&& (c ^^^ -1)) = e + 1 ∧ bt x i = true ∧ bt c i = false)) := by
  rw [pc_flip hi]
  have hpos : bt x i = true → bt c i = false → 0 < pc (x &&& (c ^^^ -1)) := fun q1 q2 => fb_ct_pos.mpr ⟨i, hi, by rw [b_and, bt_not _ hi, q1, q2]; rfl⟩
  generalize pc (x &&& (c ^^^ -1)) = n at *
  cases hx : bt x i <;> cases hc : bt c i <;> simp [hx, hc] at hpos ⊢ <;> omega
end M67
