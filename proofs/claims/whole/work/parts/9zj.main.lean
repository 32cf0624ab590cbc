/-! THE WHOLE: the script's calls, one after the other -/
def PS : Nat → Nat := fun k => [6, 5, 0, 0, 1].getD k 0
section M9zj
variable {D : zD} {w : Nat → Int32} {nS i m : Nat} {k : zD → Option (Int32 × Nat × zD)}
theorem iv_start : iv PS Mc_278.2 := by
  refine ⟨⟨?_, ?_, ?_, ?_, ?_⟩, ?_, ?_⟩
  · refine ⟨by decide, ⟨?_, ?_, ?_, ?_⟩, ⟨?_, ?_, ?_, ?_⟩, fun s hs => absurd hs (Nat.not_lt_zero _), fun s hs => absurd hs (Nat.not_lt_zero _)⟩ <;> decide +kernel
  · refine ⟨by decide, by decide +kernel, by decide +kernel, fun j hj => ?_⟩
    replace hj : j < 1 := hj
    have : j = 0 := by omega
    subst this
    exact ⟨by decide +kernel, by decide +kernel⟩
  · refine ⟨by decide, ⟨?_, ?_, ?_⟩, ⟨?_, ?_, ?_⟩, fun s hs => absurd hs (Nat.not_lt_zero _), fun s hs => absurd hs (Nat.not_lt_zero _)⟩ <;> decide +kernel
  · exact ⟨Nat.zero_le _, by decide +kernel, by decide +kernel, fun s hs => absurd hs (Nat.not_lt_zero _)⟩
  · exact ⟨Nat.zero_le _, by decide +kernel, by decide +kernel, by decide +kernel, fun s hs => absurd hs (Nat.not_lt_zero _)⟩
  · have h101 : ∀ b, b < 34 → gI Mc_278.2 101 b = -1000000 := by decide +kernel
    exact iv_K.new (by decide) h101 (by decide +kernel)
  · exact fun b hb => absurd hb (Nat.not_lt_zero _)
theorem fc_dp {c : Option Int32} {rf : zD → Option (Int32 × zD)} (h : zok c fun x => zok (rf D) fun r => ivx r.2 ∧ r.1 = x) (hk : ∀ D, ivx D → zok (k D) (zq m)) :
    zok (c.bind fun x1 => (rf D).bind fun q2 => (if x1 = q2.1 then ((k q2.2)) else ((some ((0 : Int32), 0, q2.2))))) (zq m) := by
  obtain ⟨b, e, ⟨c', D2⟩, e2, hi, hb⟩ := h
  rw [e, Option.bind_some, e2, Option.bind_some]
  have e3 : b = c' := hb.symm
  rw [if_pos e3]
  exact hk D2 hi
theorem dp_of {c : zD → Option Int32} {rf : zD → Option (Int32 × zD)} (h : duo (fun D => (c D).map fun x => (x, D)) rf D) : zok (c D) fun x => zok (rf D) fun r => ivx r.2 ∧ r.1 = x := by
  obtain ⟨q, e, r⟩ := h
  obtain ⟨x, e2, e3⟩ := Option.map_eq_some_iff.mp e
  rw [← e3] at r
  exact ⟨x, e2, r⟩
theorem zok_ite {α : Type} {c : Prop} [Decidable c] {a b : Option α} {Q : α → Prop} (h1 : zok a Q) (h2 : zok b Q) : zok (if c then a else b) Q := by
  split
  · exact h1
  · exact h2
theorem zk_in {α : Type} (c : Nat) (hc : c ≤ 5) (hi : i + 6 ≤ nS) (hS : nS ≤ 3072) (a : Option α) : zck (nI i + nI c) nS a = a := by
  rw [nI_add, zck_nI (by omega) (by omega)]
theorem fk_0 (h : ivx D) (hi : i + 6 ≤ nS) (hS : nS ≤ 3072) (hk : ∀ D, ivx D → zok (k D) (zq m)) : zok (fc_0 w nS k (nI i) D) (zq (m + 1)) := by
  obtain ⟨P, h⟩ := h
  have z1 : ∀ (a : Option (Int32 × Nat × zD)), zck (nI i + (1 : Int32)) nS a = a := fun a => zk_in 1 (by omega) hi hS a
  have z2 : ∀ (a : Option (Int32 × Nat × zD)), zck (nI i + (2 : Int32)) nS a = a := fun a => zk_in 2 (by omega) hi hS a
  have z3 : ∀ (a : Option (Int32 × Nat × zD)), zck (nI i + (3 : Int32)) nS a = a := fun a => zk_in 3 (by omega) hi hS a
  have z4 : ∀ (a : Option (Int32 × Nat × zD)), zck (nI i + (4 : Int32)) nS a = a := fun a => zk_in 4 (by omega) hi hS a
  have z5 : ∀ (a : Option (Int32 × Nat × zD)), zck (nI i + (5 : Int32)) nS a = a := fun a => zk_in 5 (by omega) hi hS a
  unfold fc_0
  simp only [z1, z2, z3, z4, z5]
  exact zq.up (fc_du (t_feed h _ _ _ _ _) hk)
theorem fk_1 (h : ivx D) (hi : i + 6 ≤ nS) (hS : nS ≤ 3072) (hk : ∀ D, ivx D → zok (k D) (zq m)) : zok (fc_1 w nS k (nI i) D) (zq (m + 1)) := by
  obtain ⟨P, h⟩ := h
  have z1 : ∀ (a : Option (Int32 × Nat × zD)), zck (nI i + (1 : Int32)) nS a = a := fun a => zk_in 1 (by omega) hi hS a
  unfold fc_1 fw_L_alphabet
  simp only [z1]
  exact fc_tw (t_alphabet h _) hk
theorem fk_2 (h : ivx D) (hi : i + 6 ≤ nS) (hS : nS ≤ 3072) (hk : ∀ D, ivx D → zok (k D) (zq m)) : zok (fc_2 w nS k (nI i) D) (zq (m + 1)) := by
  obtain ⟨P, h⟩ := h
  have z1 : ∀ (a : Option (Int32 × Nat × zD)), zck (nI i + (1 : Int32)) nS a = a := fun a => zk_in 1 (by omega) hi hS a
  unfold fc_2 fw_L_rule
  simp only [z1]
  exact fc_tw (t_rule h _) hk
theorem fk_3 (h : ivx D) (hi : i + 6 ≤ nS) (hS : nS ≤ 3072) (hk : ∀ D, ivx D → zok (k D) (zq m)) : zok (fc_3 w nS k (nI i) D) (zq (m + 1)) := by
  obtain ⟨P, h⟩ := h
  unfold fc_3
  exact zq.up (fc_dp (dp_of (t_fault h)) hk)
theorem fk_4 (h : ivx D) (hi : i + 6 ≤ nS) (hS : nS ≤ 3072) (hk : ∀ D, ivx D → zok (k D) (zq m)) : zok (fc_4 w nS k (nI i) D) (zq (m + 1)) := by
  obtain ⟨P, h⟩ := h
  have z1 : ∀ (a : Option (Int32 × Nat × zD)), zck (nI i + (1 : Int32)) nS a = a := fun a => zk_in 1 (by omega) hi hS a
  unfold fc_4 fw_L_told
  simp only [z1]
  exact fc_tw (t_told h _) hk
theorem fk_5 (h : ivx D) (hi : i + 6 ≤ nS) (hS : nS ≤ 3072) (hk : ∀ D, ivx D → zok (k D) (zq m)) : zok (fc_5 w nS k (nI i) D) (zq (m + 1)) := by
  obtain ⟨P, h⟩ := h
  have z1 : ∀ (a : Option (Int32 × Nat × zD)), zck (nI i + (1 : Int32)) nS a = a := fun a => zk_in 1 (by omega) hi hS a
  unfold fc_5 fw_L_sign
  simp only [z1]
  exact fc_tw (t_sign h _) hk
theorem fk_6 (h : ivx D) (hi : i + 6 ≤ nS) (hS : nS ≤ 3072) (hk : ∀ D, ivx D → zok (k D) (zq m)) : zok (fc_6 w nS k (nI i) D) (zq (m + 1)) := by
  obtain ⟨P, h⟩ := h
  have z1 : ∀ (a : Option (Int32 × Nat × zD)), zck (nI i + (1 : Int32)) nS a = a := fun a => zk_in 1 (by omega) hi hS a
  unfold fc_6 fw_L_family
  simp only [z1]
  exact fc_tw (t_family h _) hk
theorem fk_7 (h : ivx D) (hi : i + 6 ≤ nS) (hS : nS ≤ 3072) (hk : ∀ D, ivx D → zok (k D) (zq m)) : zok (fc_7 w nS k (nI i) D) (zq (m + 1)) := by
  obtain ⟨P, h⟩ := h
  have z1 : ∀ (a : Option (Int32 × Nat × zD)), zck (nI i + (1 : Int32)) nS a = a := fun a => zk_in 1 (by omega) hi hS a
  have z2 : ∀ (a : Option (Int32 × Nat × zD)), zck (nI i + (2 : Int32)) nS a = a := fun a => zk_in 2 (by omega) hi hS a
  unfold fc_7 fw_L_word
  simp only [z1, z2]
  exact fc_tw (t_word h _ _) hk
theorem fk_8 (h : ivx D) (hi : i + 6 ≤ nS) (hS : nS ≤ 3072) (hk : ∀ D, ivx D → zok (k D) (zq m)) : zok (fc_8 w nS k (nI i) D) (zq (m + 1)) := by
  obtain ⟨P, h⟩ := h
  have z1 : ∀ (a : Option (Int32 × Nat × zD)), zck (nI i + (1 : Int32)) nS a = a := fun a => zk_in 1 (by omega) hi hS a
  unfold fc_8 fw_L_cover
  simp only [z1]
  exact fc_tw (t_cover h _) hk
theorem fk_9 (h : ivx D) (hi : i + 6 ≤ nS) (hS : nS ≤ 3072) (hk : ∀ D, ivx D → zok (k D) (zq m)) : zok (fc_9 w nS k (nI i) D) (zq (m + 1)) := by
  obtain ⟨P, h⟩ := h
  have z1 : ∀ (a : Option (Int32 × Nat × zD)), zck (nI i + (1 : Int32)) nS a = a := fun a => zk_in 1 (by omega) hi hS a
  unfold fc_9 fw_L_dirt
  simp only [z1]
  exact fc_tw (t_dirt h _) hk
theorem fk_10 (h : ivx D) (hi : i + 6 ≤ nS) (hS : nS ≤ 3072) (hk : ∀ D, ivx D → zok (k D) (zq m)) : zok (fc_10 w nS k (nI i) D) (zq (m + 1)) := by
  obtain ⟨P, h⟩ := h
  have z1 : ∀ (a : Option (Int32 × Nat × zD)), zck (nI i + (1 : Int32)) nS a = a := fun a => zk_in 1 (by omega) hi hS a
  have z2 : ∀ (a : Option (Int32 × Nat × zD)), zck (nI i + (2 : Int32)) nS a = a := fun a => zk_in 2 (by omega) hi hS a
  unfold fc_10 fw_L_confused
  simp only [z1, z2]
  exact fc_tw (t_confused h _ _) hk
theorem fk_11 (h : ivx D) (hi : i + 6 ≤ nS) (hS : nS ≤ 3072) (hk : ∀ D, ivx D → zok (k D) (zq m)) : zok (fc_11 w nS k (nI i) D) (zq (m + 1)) := by
  obtain ⟨P, h⟩ := h
  unfold fc_11
  exact zq.up (fc_du (tk_confusions h) hk)
theorem fk_12 (h : ivx D) (hi : i + 6 ≤ nS) (hS : nS ≤ 3072) (hk : ∀ D, ivx D → zok (k D) (zq m)) : zok (fc_12 w nS k (nI i) D) (zq (m + 1)) := by
  obtain ⟨P, h⟩ := h
  have z1 : ∀ (a : Option (Int32 × Nat × zD)), zck (nI i + (1 : Int32)) nS a = a := fun a => zk_in 1 (by omega) hi hS a
  unfold fc_12 fw_L_blind
  simp only [z1]
  exact fc_tw (tk_blind h _) hk
theorem fk_13 (h : ivx D) (hi : i + 6 ≤ nS) (hS : nS ≤ 3072) (hk : ∀ D, ivx D → zok (k D) (zq m)) : zok (fc_13 w nS k (nI i) D) (zq (m + 1)) := by
  obtain ⟨P, h⟩ := h
  have z1 : ∀ (a : Option (Int32 × Nat × zD)), zck (nI i + (1 : Int32)) nS a = a := fun a => zk_in 1 (by omega) hi hS a
  have z2 : ∀ (a : Option (Int32 × Nat × zD)), zck (nI i + (2 : Int32)) nS a = a := fun a => zk_in 2 (by omega) hi hS a
  unfold fc_13 fw_L_may
  simp only [z1, z2]
  exact fc_tw (t_may h _ _) hk
theorem fk_14 (h : ivx D) (hi : i + 6 ≤ nS) (hS : nS ≤ 3072) (hk : ∀ D, ivx D → zok (k D) (zq m)) : zok (fc_14 w nS k (nI i) D) (zq (m + 1)) := by
  obtain ⟨P, h⟩ := h
  have z1 : ∀ (a : Option (Int32 × Nat × zD)), zck (nI i + (1 : Int32)) nS a = a := fun a => zk_in 1 (by omega) hi hS a
  have z2 : ∀ (a : Option (Int32 × Nat × zD)), zck (nI i + (2 : Int32)) nS a = a := fun a => zk_in 2 (by omega) hi hS a
  unfold fc_14 fw_L_read
  simp only [z1, z2]
  exact fc_tw (t_read h _ _) hk
theorem fk_15 (h : ivx D) (hi : i + 6 ≤ nS) (hS : nS ≤ 3072) (hk : ∀ D, ivx D → zok (k D) (zq m)) : zok (fc_15 w nS k (nI i) D) (zq (m + 1)) := by
  obtain ⟨P, h⟩ := h
  have z1 : ∀ (a : Option (Int32 × Nat × zD)), zck (nI i + (1 : Int32)) nS a = a := fun a => zk_in 1 (by omega) hi hS a
  have z2 : ∀ (a : Option (Int32 × Nat × zD)), zck (nI i + (2 : Int32)) nS a = a := fun a => zk_in 2 (by omega) hi hS a
  unfold fc_15 fw_L_nearest
  simp only [z1, z2]
  exact fc_tw (t_nearest h _ _) hk
theorem fk_16 (h : ivx D) (hi : i + 6 ≤ nS) (hS : nS ≤ 3072) (hk : ∀ D, ivx D → zok (k D) (zq m)) : zok (fc_16 w nS k (nI i) D) (zq (m + 1)) := by
  obtain ⟨P, h⟩ := h
  have z1 : ∀ (a : Option (Int32 × Nat × zD)), zck (nI i + (1 : Int32)) nS a = a := fun a => zk_in 1 (by omega) hi hS a
  have z2 : ∀ (a : Option (Int32 × Nat × zD)), zck (nI i + (2 : Int32)) nS a = a := fun a => zk_in 2 (by omega) hi hS a
  unfold fc_16 fw_L_part
  simp only [z1, z2]
  exact fc_tw (t_part h _ _) hk
theorem fk_17 (h : ivx D) (hi : i + 6 ≤ nS) (hS : nS ≤ 3072) (hk : ∀ D, ivx D → zok (k D) (zq m)) : zok (fc_17 w nS k (nI i) D) (zq (m + 1)) := by
  obtain ⟨P, h⟩ := h
  unfold fc_17
  exact zq.up (fc_du (t_forget h) hk)
theorem fk_18 (h : ivx D) (hi : i + 6 ≤ nS) (hS : nS ≤ 3072) (hk : ∀ D, ivx D → zok (k D) (zq m)) : zok (fc_18 w nS k (nI i) D) (zq (m + 1)) := by
  obtain ⟨P, h⟩ := h
  unfold fc_18
  exact zq.up (fc_dp (dp_of (t_words h)) hk)
theorem fk_19 (h : ivx D) (hi : i + 6 ≤ nS) (hS : nS ≤ 3072) (hk : ∀ D, ivx D → zok (k D) (zq m)) : zok (fc_19 w nS k (nI i) D) (zq (m + 1)) := by
  obtain ⟨P, h⟩ := h
  have z1 : ∀ (a : Option (Int32 × Nat × zD)), zck (nI i + (1 : Int32)) nS a = a := fun a => zk_in 1 (by omega) hi hS a
  unfold fc_19
  simp only [z1]
  exact zq.up (fc_dp (dp_of (t_sure h _)) hk)
theorem fk_20 (h : ivx D) (hi : i + 6 ≤ nS) (hS : nS ≤ 3072) (hk : ∀ D, ivx D → zok (k D) (zq m)) : zok (fc_20 w nS k (nI i) D) (zq (m + 1)) := by
  obtain ⟨P, h⟩ := h
  have z1 : ∀ (a : Option (Int32 × Nat × zD)), zck (nI i + (1 : Int32)) nS a = a := fun a => zk_in 1 (by omega) hi hS a
  have z2 : ∀ (a : Option (Int32 × Nat × zD)), zck (nI i + (2 : Int32)) nS a = a := fun a => zk_in 2 (by omega) hi hS a
  unfold fc_20 fw_L_least
  simp only [z1, z2]
  exact fc_tw (tk_least h _ _) hk
theorem fk_21 (h : ivx D) (hi : i + 6 ≤ nS) (hS : nS ≤ 3072) (hk : ∀ D, ivx D → zok (k D) (zq m)) : zok (fc_21 w nS k (nI i) D) (zq (m + 1)) := by
  obtain ⟨P, h⟩ := h
  have z1 : ∀ (a : Option (Int32 × Nat × zD)), zck (nI i + (1 : Int32)) nS a = a := fun a => zk_in 1 (by omega) hi hS a
  unfold fc_21 fw_L_strokes
  simp only [z1]
  exact fc_tw (tk_strokes h _) hk
theorem fk_22 (h : ivx D) (hi : i + 6 ≤ nS) (hS : nS ≤ 3072) (hk : ∀ D, ivx D → zok (k D) (zq m)) : zok (fc_22 w nS k (nI i) D) (zq (m + 1)) := by
  obtain ⟨P, h⟩ := h
  have z1 : ∀ (a : Option (Int32 × Nat × zD)), zck (nI i + (1 : Int32)) nS a = a := fun a => zk_in 1 (by omega) hi hS a
  have z2 : ∀ (a : Option (Int32 × Nat × zD)), zck (nI i + (2 : Int32)) nS a = a := fun a => zk_in 2 (by omega) hi hS a
  unfold fc_22 fw_L_akin
  simp only [z1, z2]
  exact fc_tw (t_akin h _ _) hk
theorem fk_23 (h : ivx D) (hi : i + 6 ≤ nS) (hS : nS ≤ 3072) (hk : ∀ D, ivx D → zok (k D) (zq m)) : zok (fc_23 w nS k (nI i) D) (zq (m + 1)) := by
  obtain ⟨P, h⟩ := h
  unfold fc_23
  exact zq.up (fc_dp (dp_of (t_strangers h)) hk)
theorem fk_24 (h : ivx D) (hi : i + 6 ≤ nS) (hS : nS ≤ 3072) (hk : ∀ D, ivx D → zok (k D) (zq m)) : zok (fc_24 w nS k (nI i) D) (zq (m + 1)) := by
  obtain ⟨P, h⟩ := h
  have z1 : ∀ (a : Option (Int32 × Nat × zD)), zck (nI i + (1 : Int32)) nS a = a := fun a => zk_in 1 (by omega) hi hS a
  unfold fc_24 fw_L_changed
  simp only [z1]
  exact fc_tw (tk_changed h _) hk
theorem fk_25 (h : ivx D) (hi : i + 6 ≤ nS) (hS : nS ≤ 3072) (hk : ∀ D, ivx D → zok (k D) (zq m)) : zok (fc_25 w nS k (nI i) D) (zq (m + 1)) := by
  obtain ⟨P, h⟩ := h
  unfold fc_25
  exact zq.up (fc_du (tk_bound h) hk)
theorem fk_26 (h : ivx D) (hi : i + 6 ≤ nS) (hS : nS ≤ 3072) (hk : ∀ D, ivx D → zok (k D) (zq m)) : zok (fc_26 w nS k (nI i) D) (zq (m + 1)) := by
  obtain ⟨P, h⟩ := h
  have z1 : ∀ (a : Option (Int32 × Nat × zD)), zck (nI i + (1 : Int32)) nS a = a := fun a => zk_in 1 (by omega) hi hS a
  unfold fc_26 fw_L_steps
  simp only [z1]
  exact fc_tw (tk_steps h _) hk
theorem fk_27 (h : ivx D) (hi : i + 6 ≤ nS) (hS : nS ≤ 3072) (hk : ∀ D, ivx D → zok (k D) (zq m)) : zok (fc_27 w nS k (nI i) D) (zq (m + 1)) := by
  obtain ⟨P, h⟩ := h
  unfold fc_27
  exact zq.up (fc_du (tk_most h) hk)
theorem fk_28 (h : ivx D) (hi : i + 6 ≤ nS) (hS : nS ≤ 3072) (hk : ∀ D, ivx D → zok (k D) (zq m)) : zok (fc_28 w nS k (nI i) D) (zq (m + 1)) := by
  obtain ⟨P, h⟩ := h
  unfold fc_28
  exact zq.up (fc_du (tk_taken h) hk)
theorem fk_29 (h : ivx D) (hi : i + 6 ≤ nS) (hS : nS ≤ 3072) (hk : ∀ D, ivx D → zok (k D) (zq m)) : zok (fc_29 w nS k (nI i) D) (zq (m + 1)) := by
  obtain ⟨P, h⟩ := h
  have z1 : ∀ (a : Option (Int32 × Nat × zD)), zck (nI i + (1 : Int32)) nS a = a := fun a => zk_in 1 (by omega) hi hS a
  have z2 : ∀ (a : Option (Int32 × Nat × zD)), zck (nI i + (2 : Int32)) nS a = a := fun a => zk_in 2 (by omega) hi hS a
  have z3 : ∀ (a : Option (Int32 × Nat × zD)), zck (nI i + (3 : Int32)) nS a = a := fun a => zk_in 3 (by omega) hi hS a
  unfold fc_29 fw_L_stand
  simp only [z1, z2, z3]
  exact fc_tw (t_stand h _ _ _) hk
theorem fk_30 (h : ivx D) (hi : i + 6 ≤ nS) (hS : nS ≤ 3072) (hk : ∀ D, ivx D → zok (k D) (zq m)) : zok (fc_30 w nS k (nI i) D) (zq (m + 1)) := by
  obtain ⟨P, h⟩ := h
  unfold fc_30
  exact zq.up (fc_du (t_leave h) hk)
theorem fk_31 (h : ivx D) (hi : i + 6 ≤ nS) (hS : nS ≤ 3072) (hk : ∀ D, ivx D → zok (k D) (zq m)) : zok (fc_31 w nS k (nI i) D) (zq (m + 1)) := by
  obtain ⟨P, h⟩ := h
  have z1 : ∀ (a : Option (Int32 × Nat × zD)), zck (nI i + (1 : Int32)) nS a = a := fun a => zk_in 1 (by omega) hi hS a
  have z2 : ∀ (a : Option (Int32 × Nat × zD)), zck (nI i + (2 : Int32)) nS a = a := fun a => zk_in 2 (by omega) hi hS a
  have z3 : ∀ (a : Option (Int32 × Nat × zD)), zck (nI i + (3 : Int32)) nS a = a := fun a => zk_in 3 (by omega) hi hS a
  unfold fc_31 fw_L_seen
  simp only [z1, z2, z3]
  by_cases hw : w (nI i + (3 : Int32)).toNatClampNeg = 0
  · simp only [if_pos hw]
    exact fc_tw (t_seen h _ _ _) hk
  · simp only [if_neg hw]
    exact fc_tw (t_seen h _ _ _) hk
theorem fk_32 (h : ivx D) (hi : i + 6 ≤ nS) (hS : nS ≤ 3072) (hk : ∀ D, ivx D → zok (k D) (zq m)) : zok (fc_32 w nS k (nI i) D) (zq (m + 1)) := by
  obtain ⟨P, h⟩ := h
  have z1 : ∀ (a : Option (Int32 × Nat × zD)), zck (nI i + (1 : Int32)) nS a = a := fun a => zk_in 1 (by omega) hi hS a
  have z2 : ∀ (a : Option (Int32 × Nat × zD)), zck (nI i + (2 : Int32)) nS a = a := fun a => zk_in 2 (by omega) hi hS a
  have z3 : ∀ (a : Option (Int32 × Nat × zD)), zck (nI i + (3 : Int32)) nS a = a := fun a => zk_in 3 (by omega) hi hS a
  unfold fc_32 fw_L_guess
  simp only [z1, z2, z3]
  by_cases hw : w (nI i + (3 : Int32)).toNatClampNeg = 0
  · simp only [if_pos hw]
    exact fc_tw (t_guess h _ _ _) hk
  · simp only [if_neg hw]
    exact fc_tw (t_guess h _ _ _) hk
theorem fk_33 (h : ivx D) (hi : i + 6 ≤ nS) (hS : nS ≤ 3072) (hk : ∀ D, ivx D → zok (k D) (zq m)) : zok (fc_33 w nS k (nI i) D) (zq (m + 1)) := by
  obtain ⟨P, h⟩ := h
  have z1 : ∀ (a : Option (Int32 × Nat × zD)), zck (nI i + (1 : Int32)) nS a = a := fun a => zk_in 1 (by omega) hi hS a
  have z2 : ∀ (a : Option (Int32 × Nat × zD)), zck (nI i + (2 : Int32)) nS a = a := fun a => zk_in 2 (by omega) hi hS a
  unfold fc_33 fw_L_known
  simp only [z1, z2]
  by_cases hw : w (nI i + (2 : Int32)).toNatClampNeg = 0
  · simp only [if_pos hw]
    exact fc_tw (tk_known h _ _) hk
  · simp only [if_neg hw]
    exact fc_tw (tk_known h _ _) hk
theorem fk_34 (h : ivx D) (hi : i + 6 ≤ nS) (hS : nS ≤ 3072) (hk : ∀ D, ivx D → zok (k D) (zq m)) : zok (fc_34 w nS k (nI i) D) (zq (m + 1)) := by
  obtain ⟨P, h⟩ := h
  have z1 : ∀ (a : Option (Int32 × Nat × zD)), zck (nI i + (1 : Int32)) nS a = a := fun a => zk_in 1 (by omega) hi hS a
  unfold fc_34
  simp only [z1]
  by_cases hw : w (nI i + (1 : Int32)).toNatClampNeg = 0
  · simp only [if_pos hw]
    exact zq.up (fc_du (tk_all h _) hk)
  · simp only [if_neg hw]
    exact zq.up (fc_du (tk_all h _) hk)
theorem fk_35 (h : ivx D) (hi : i + 6 ≤ nS) (hS : nS ≤ 3072) (hk : ∀ D, ivx D → zok (k D) (zq m)) : zok (fc_35 w nS k (nI i) D) (zq (m + 1)) := by
  obtain ⟨P, h⟩ := h
  have z1 : ∀ (a : Option (Int32 × Nat × zD)), zck (nI i + (1 : Int32)) nS a = a := fun a => zk_in 1 (by omega) hi hS a
  unfold fc_35
  simp only [z1]
  by_cases hw : w (nI i + (1 : Int32)).toNatClampNeg = 0
  · simp only [if_pos hw]
    exact zq.up (fc_du (tk_voyage h _) hk)
  · simp only [if_neg hw]
    exact zq.up (fc_du (tk_voyage h _) hk)
theorem fk_36 (h : ivx D) (hi : i + 6 ≤ nS) (hS : nS ≤ 3072) (hk : ∀ D, ivx D → zok (k D) (zq m)) : zok (fc_36 w nS k (nI i) D) (zq (m + 1)) := by
  obtain ⟨P, h⟩ := h
  unfold fc_36
  exact zq.up (fc_du (t_image h) hk)
theorem fk_37 (h : ivx D) (hi : i + 6 ≤ nS) (hS : nS ≤ 3072) (hk : ∀ D, ivx D → zok (k D) (zq m)) : zok (fc_37 w nS k (nI i) D) (zq (m + 1)) := by
  obtain ⟨P, h⟩ := h
  unfold fc_37
  exact zq.up (fc_du (t_restore h) hk)
theorem fk_38 (h : ivx D) (hi : i + 6 ≤ nS) (hS : nS ≤ 3072) (hk : ∀ D, ivx D → zok (k D) (zq m)) : zok (fc_38 w nS k (nI i) D) (zq (m + 1)) := by
  obtain ⟨P, h⟩ := h
  have z1 : ∀ (a : Option (Int32 × Nat × zD)), zck (nI i + (1 : Int32)) nS a = a := fun a => zk_in 1 (by omega) hi hS a
  unfold fc_38
  simp only [z1]
  exact zq.up (fc_dp (t_count h _) hk)
theorem fl_call_ok (h : ivx D) (hi : i + 6 ≤ nS) (hS : nS ≤ 3072) (hk : ∀ D, ivx D → zok (k D) (zq m)) (c : Int32) : zok (fl_call w nS k (nI i) D c) (zq (m + 1)) := by
  unfold fl_call
  exact zok_ite (fk_0 h hi hS hk) (zok_ite (fk_1 h hi hS hk) (zok_ite (fk_2 h hi hS hk) (zok_ite (fk_3 h hi hS hk) (zok_ite (fk_4 h hi hS hk) (zok_ite (fk_5 h hi hS hk) (zok_ite (fk_6 h hi hS hk) (zok_ite (fk_7 h hi hS hk) (zok_ite (fk_8 h hi hS hk) (zok_ite (fk_9 h hi hS hk) (zok_ite (fk_10 h hi hS hk) (zok_ite (fk_11 h hi hS hk) (zok_ite (fk_12 h hi hS hk) (zok_ite (fk_13 h hi hS hk) (zok_ite (fk_14 h hi hS hk) (zok_ite (fk_15 h hi hS hk) (zok_ite (fk_16 h hi hS hk) (zok_ite (fk_17 h hi hS hk) (zok_ite (fk_18 h hi hS hk) (zok_ite (fk_19 h hi hS hk) (zok_ite (fk_20 h hi hS hk) (zok_ite (fk_21 h hi hS hk) (zok_ite (fk_22 h hi hS hk) (zok_ite (fk_23 h hi hS hk) (zok_ite (fk_24 h hi hS hk) (zok_ite (fk_25 h hi hS hk) (zok_ite (fk_26 h hi hS hk) (zok_ite (fk_27 h hi hS hk) (zok_ite (fk_28 h hi hS hk) (zok_ite (fk_29 h hi hS hk) (zok_ite (fk_30 h hi hS hk) (zok_ite (fk_31 h hi hS hk) (zok_ite (fk_32 h hi hS hk) (zok_ite (fk_33 h hi hS hk) (zok_ite (fk_34 h hi hS hk) (zok_ite (fk_35 h hi hS hk) (zok_ite (fk_36 h hi hS hk) (zok_ite (fk_37 h hi hS hk) (zok_ite (fk_38 h hi hS hk) (zq.up (hk D h))))))))))))))))))))))))))))))))))))))))
theorem fl_end (hS : nS ≤ 3072) (hi : i ≤ 3072) : Int32.ofNat nS - 6 < nI i ↔ nS < i + 6 := by
  show nI nS - 6 < nI i ↔ nS < i + 6
  rcases Nat.lt_or_ge nS 6 with g | g
  · have hk : ∀ a : Fin 6, (nI a.val - 6).toInt < 0 := by decide
    have := hk ⟨nS, g⟩
    rw [fa_lt, nI_toInt (by omega)]
    constructor
    · intro _; omega
    · intro _
      have h2 : (nI nS - 6).toInt < 0 := this
      omega
  · rw [show nI nS - 6 = nI (nS - 6) from pk_sub (b := 6) g, nLt _ _ (by omega) (by omega)]
    omega
theorem fl_go (hS : nS ≤ 3072) : ∀ (r i fuel : Nat) (D : zD), nS < i + 6 * (r + 1) → r < fuel → i ≤ nS → ivx D → zok (fl_loop w nS fuel (nI i) D) (zq r)
  | 0, i, fuel, D, h1, h2, h3, h4 => by
    obtain ⟨fuel, rfl⟩ : ∃ x, fuel = x + 1 := ⟨fuel - 1, by omega⟩
    rw [fl_loop, if_pos ((fl_end hS (by omega)).mpr (by omega)), zok_some]
    exact ⟨rfl, Nat.le_refl _⟩
  | r + 1, i, fuel, D, h1, h2, h3, h4 => by
    obtain ⟨fuel, rfl⟩ : ∃ x, fuel = x + 1 := ⟨fuel - 1, by omega⟩
    rw [fl_loop]
    by_cases q : nS < i + 6
    · rw [if_pos ((fl_end hS (by omega)).mpr q), zok_some]
      exact ⟨rfl, Nat.zero_le _⟩
    · rw [if_neg (fun t => q ((fl_end hS (by omega)).mp t)), zck_nI (by omega) (by omega), zlet_eq]
      refine fl_call_ok h4 (by omega) hS (fun E hE => ?_) _
      show zok (fl_loop w nS fuel (nI i + nI 6) E) (zq r)
      rw [nI_add]
      exact fl_go hS r (i + 6) fuel E (by omega) (by omega) (by omega) hE
theorem fl_main (w : Nat → Int32) (nS : Nat) (hS : nS ≤ 3072) : ∃ x D', fl_loop w nS zFU 0 Mc_278.2 = some (1, x, D') ∧ x ≤ 3072 := by
  obtain ⟨⟨a, x, D'⟩, e, h1, h2⟩ := fl_go (w := w) hS (nS / 6) 0 zFU Mc_278.2 (by omega) (zfu_gt (by omega)) (Nat.zero_le _) ⟨PS, iv_start⟩
  replace h1 : a = 1 := h1
  replace h2 : x ≤ nS / 6 := h2
  subst h1
  exact ⟨x, D', e, by omega⟩
end M9zj
