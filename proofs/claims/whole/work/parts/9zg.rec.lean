/-! THE MATHEMATICS: rule, both -/
def pKr (a b : Nat) : Prop := a ≠ 2 ∧ ¬ (a = 0 ∧ b = 17) ∧ ¬ (22 ≤ a ∧ a ≤ 56) ∧ ¬ (a = 102 ∧ (b ≤ 8 ∨ b = 27 ∨ b = 32 ∨ b = 33)) ∧ ¬ (130 ≤ a ∧ a ≤ 161)
def pKc (a _b : Nat) : Prop := a ≠ 2 ∧ ¬ (22 ≤ a ∧ a ≤ 56)
section M9zg
variable {D : zD} {P : Nat → Nat} {n W h : Nat} {B : Nat → Int32}
theorem RF_asked {fAs fOr : zD → Option zD} : ∀ (f : Nat × Nat) (E : zD), rdF f E → fn_X12_asked fAs fOr E = some E := fun f E k => by
  unfold fn_X12_asked
  rw [if_neg (rdF_ne k)]
theorem SG_all : ∀ (m v : Nat), v ≤ 6 → 7 - v < m → SG n B W h v (2 * v + 2) (fn_X7_singleR m) (fn_X12_askedR m) ∧ ∀ (f : Nat × Nat) (E : zD), rdF f E → fn_X12_askedR m E = some E
  | 0, v, _, hm => absurd hm (Nat.not_lt_zero _)
  | m + 1, v, hv, hm => by
    have eR : fn_X12_askedR (m + 1) = fn_X12_asked (fn_X12_askedR m) (fn_X12_ors (fn_X12_ands (fn_X12_askedR m))) := rfl
    have eC : fn_X7_singleR (m + 1) = fn_X7_single (fn_X7_choice (fn_X7_both (fn_X7_singleR m))) (fn_X7_singleR m) := rfl
    rw [eR, eC]
    refine ⟨?_, RF_asked⟩
    have hF : ∀ (f : Nat × Nat) (E : zD), rdF f E → fn_X12_askedR m E = some E := by
      cases m with
      | zero =>
        intro f E k
        exact absurd hm (by omega)
      | succ m =>
        intro f E k
        exact RF_asked f E k
    refine SG_single hv (fun q => ?_) (fun q => ?_) (RF_or (RF_and hF)) hF
    · have z := (SG_all m (v + 1) (by omega) (by omega)).1
      exact SG_or (kb := 2 * v + 2) (SG_and (kb := 2 * v + 3) z (by omega)) (by omega)
    · have z := (SG_all m (v + 1) (by omega) (by omega)).1
      exact fun k p D hk hP => z k p D (by omega) hP
theorem SG_top : SG n B W h 0 0 fn_X7_choiceT fn_X12_orsT ∧ True := by
  refine ⟨?_, trivial⟩
  have z := (SG_all (n := n) (B := B) (W := W) (h := h) 12 0 (by omega) (by omega)).1
  exact SG_or (kb := 0) (SG_and (kb := 1) z (by omega)) (by omega)
end M9zg
