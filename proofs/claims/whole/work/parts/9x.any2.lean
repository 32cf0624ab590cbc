/-! THE MATHEMATICS: any cells, the class's loops -/
def pAn (a b c : Nat) : Prop := ¬ (b = 22 ∧ c = 6) ∧ ¬ (b = a ∧ c = 1) ∧ b ≠ a + 1
section M9x
variable {D : zD} {N k a : Nat} {s : Option (List Int32)}
theorem c_any35 (hk : k ≤ 3) (hN : 1 ≤ N ∧ N ≤ 30) (ha : 27 ≤ a) (hV : cV a s D) (hs : ∀ l, s = some l → l = []) : zok (fn_X7_any_35 a zFU (nI k) (nI N) 0 D) fun q => q.1 = 1 ∧ cV a (gAny k N s) q.2 ∧ ag (pAn a) D q.2 := by
  have k0 : nI k ≤ (0 : Int32) ↔ k ≤ 0 := nLe k 0 (by omega) (by omega)
  have k1 : nI k ≤ (1 : Int32) ↔ k ≤ 1 := nLe k 1 (by omega) (by omega)
  have k2 : nI k ≤ (2 : Int32) ↔ k ≤ 2 := nLe k 2 (by omega) (by omega)
  unfold gAny
  obtain ⟨B1, hB1⟩ : ∃ B1, B1 = if k ≤ 0 then 1 else N := ⟨_, rfl⟩
  obtain ⟨B2, hB2⟩ : ∃ B, B = if k ≤ 1 then 1 else N := ⟨_, rfl⟩
  obtain ⟨B3, hB3⟩ : ∃ B, B = if k ≤ 2 then 1 else N := ⟨_, rfl⟩
  rw [← hB1, ← hB2, ← hB3]
  have b1 : (k ≤ 0 → B1 = 1) ∧ (¬ k ≤ 0 → B1 = N) := ⟨fun q => by rw [hB1, if_pos q], fun q => by rw [hB1, if_neg q]⟩
  have b2 : (k ≤ 1 → B2 = 1) ∧ (¬ k ≤ 1 → B2 = N) := ⟨fun q => by rw [hB2, if_pos q], fun q => by rw [hB2, if_neg q]⟩
  have b3 : (k ≤ 2 → B3 = 1) ∧ (¬ k ≤ 2 → B3 = N) := ⟨fun q => by rw [hB3, if_pos q], fun q => by rw [hB3, if_neg q]⟩
  have c1 : B1 ≤ 30 := by by_cases q : k ≤ 0; (have := b1.1 q; omega); (have := b1.2 q; omega)
  have c2 : B2 ≤ 30 := by by_cases q : k ≤ 1; (have := b2.1 q; omega); (have := b2.2 q; omega)
  have c3 : B3 ≤ 30 := by by_cases q : k ≤ 2; (have := b3.1 q; omega); (have := b3.2 q; omega)
  have iv0 : ivA k N s 0 0 0 := fun l hl m hm => by
    have := hs l hl
    subst this
    cases hm
  refine z_inv B1 (fun n i (E : zD) => fn_X7_any_35 a n (nI k) (nI N) (nI i) E) (fun i E => cV a (zfo (fun a s => zfo (fun b s => zfo (fun c s => stp s (msk k a b c)) (B3 - (if k ≤ 2 then 0 else b + 1)) (if k ≤ 2 then 0 else b + 1) s) (B2 - (if k ≤ 1 then 0 else a + 1)) (if k ≤ 1 then 0 else a + 1) s) i 0 s) E ∧ ivA k N (zfo (fun a s => zfo (fun b s => zfo (fun c s => stp s (msk k a b c)) (B3 - (if k ≤ 2 then 0 else b + 1)) (if k ≤ 2 then 0 else b + 1) s) (B2 - (if k ≤ 1 then 0 else a + 1)) (if k ≤ 1 then 0 else a + 1) s) i 0 s) i 0 0 ∧ ag (pAn a) D E) _ ?_ ?_ 0 zFU D (Nat.zero_le _) (zfu_gt (by omega)) ⟨hV, iv0, ag.refl⟩
  · intro n i E hi ⟨e1, e2, e3⟩ ih
    show zok (fn_X7_any_35 a (n + 1) (nI k) (nI N) (nI i) E) _
    have nx := zfo_last (fun a s => zfo (fun b s => zfo (fun c s => stp s (msk k a b c)) (B3 - (if k ≤ 2 then 0 else b + 1)) (if k ≤ 2 then 0 else b + 1) s) (B2 - (if k ≤ 1 then 0 else a + 1)) (if k ≤ 1 then 0 else a + 1) s) i 0 s
    rw [Nat.zero_add] at nx
    generalize zfo (fun a s => zfo (fun b s => zfo (fun c s => stp s (msk k a b c)) (B3 - (if k ≤ 2 then 0 else b + 1)) (if k ≤ 2 then 0 else b + 1) s) (B2 - (if k ≤ 1 then 0 else a + 1)) (if k ≤ 1 then 0 else a + 1) s) i 0 s = s1 at *
    have hst : fn_X7_any_35 a (n + 1) (nI k) (nI N) (nI i) E = fn_X7_any_46 a (fn_X7_any_35 a n) (nI k) (nI N) (nI i) (nI i) (nI B1) E := by
      rw [fn_X7_any_35]
      by_cases q : k ≤ 0
      · rw [if_pos (k0.mpr q), b1.1 q]; rfl
      · rw [if_neg (fun r => q (k0.mp r)), b1.2 q]
    rw [hst]
    unfold fn_X7_any_46
    rw [if_neg (nI_ge hi (by omega))]
    obtain ⟨S2, hS2⟩ : ∃ S, S = if k ≤ 1 then 0 else i + 1 := ⟨_, rfl⟩
    rw [← hS2] at nx
    have d2 : (k ≤ 1 → S2 = 0) ∧ (¬ k ≤ 1 → S2 = i + 1) := ⟨fun q => by rw [hS2, if_pos q], fun q => by rw [hS2, if_neg q]⟩
    have l2 : S2 ≤ B2 := by
      by_cases q : k ≤ 1
      · have := d2.1 q; omega
      · have := d2.2 q; have := b2.2 q; have := b1.2 (by omega); omega
    have hst2 : (if nI k ≤ (1 : Int32) then ((fn_X7_any_64 a (fn_X7_any_35 a n) zFU (nI k) (nI N) (nI i) (0 : Int32) E)) else (zlet (nI i + (1 : Int32)) fun x24 => (fn_X7_any_64 a (fn_X7_any_35 a n) zFU (nI k) (nI N) (nI i) x24 E))) = fn_X7_any_64 a (fn_X7_any_35 a n) zFU (nI k) (nI N) (nI i) (nI S2) E := by
      by_cases q : k ≤ 1
      · rw [if_pos (k1.mpr q), d2.1 q]; rfl
      · rw [if_neg (fun r => q (k1.mp r)), d2.2 q, zlet_eq, nI_1]
    rw [hst2]
    refine z_inv B2 (fun m j (E : zD) => fn_X7_any_64 a (fn_X7_any_35 a n) m (nI k) (nI N) (nI i) (nI j) E) (fun j E => S2 ≤ j ∧ cV a (zfo (fun b s => zfo (fun c s => stp s (msk k i b c)) (B3 - (if k ≤ 2 then 0 else b + 1)) (if k ≤ 2 then 0 else b + 1) s) (j - S2) S2 s1) E ∧ ivA k N (zfo (fun b s => zfo (fun c s => stp s (msk k i b c)) (B3 - (if k ≤ 2 then 0 else b + 1)) (if k ≤ 2 then 0 else b + 1) s) (j - S2) S2 s1) i j 0 ∧ ag (pAn a) D E) _ ?_ ?_ S2 zFU E l2 (by unfold zFU; omega) ⟨Nat.le_refl _, by rw [Nat.sub_self]; exact e1, by rw [Nat.sub_self]; exact ivA_up e2 fun a b c t => by unfold lexl at *; omega, e3⟩
    · intro m j E hj ⟨f0, f1, f2, f3⟩ ih2
      show zok (fn_X7_any_64 a (fn_X7_any_35 a n) (m + 1) (nI k) (nI N) (nI i) (nI j) E) _
      have nx2 := zfo_last (fun b s => zfo (fun c s => stp s (msk k i b c)) (B3 - (if k ≤ 2 then 0 else b + 1)) (if k ≤ 2 then 0 else b + 1) s) (j - S2) S2 s1
      rw [show j - S2 + 1 = j + 1 - S2 by omega, show S2 + (j - S2) = j by omega] at nx2
      generalize zfo (fun b s => zfo (fun c s => stp s (msk k i b c)) (B3 - (if k ≤ 2 then 0 else b + 1)) (if k ≤ 2 then 0 else b + 1) s) (j - S2) S2 s1 = s2 at *
      have hst3 : fn_X7_any_64 a (fn_X7_any_35 a n) (m + 1) (nI k) (nI N) (nI i) (nI j) E = fn_X7_any_76 a (fn_X7_any_35 a n) (fn_X7_any_64 a (fn_X7_any_35 a n) m) (nI k) (nI N) (nI i) (nI j) (nI j) (nI B2) E := by
        rw [fn_X7_any_64]
        by_cases q : k ≤ 1
        · rw [if_pos (k1.mpr q), b2.1 q]; rfl
        · rw [if_neg (fun r => q (k1.mp r)), b2.2 q]
      rw [hst3]
      unfold fn_X7_any_76
      rw [if_neg (nI_ge hj (by omega))]
      obtain ⟨S3, hS3⟩ : ∃ S, S = if k ≤ 2 then 0 else j + 1 := ⟨_, rfl⟩
      rw [← hS3] at nx2
      have d3 : (k ≤ 2 → S3 = 0) ∧ (¬ k ≤ 2 → S3 = j + 1) := ⟨fun q => by rw [hS3, if_pos q], fun q => by rw [hS3, if_neg q]⟩
      have l3 : S3 ≤ B3 := by
        by_cases q : k ≤ 2
        · have := d3.1 q; omega
        · have := d3.2 q; have := b3.2 q; have := b2.2 (by omega); omega
      have hst4 : (if nI k ≤ (2 : Int32) then ((fn_X7_any_94 a (fn_X7_any_64 a (fn_X7_any_35 a n) m) zFU (nI k) (nI N) (nI i) (nI j) (0 : Int32) E)) else (zlet (nI j + (1 : Int32)) fun x23 => (fn_X7_any_94 a (fn_X7_any_64 a (fn_X7_any_35 a n) m) zFU (nI k) (nI N) (nI i) (nI j) x23 E))) = fn_X7_any_94 a (fn_X7_any_64 a (fn_X7_any_35 a n) m) zFU (nI k) (nI N) (nI i) (nI j) (nI S3) E := by
        by_cases q : k ≤ 2
        · rw [if_pos (k2.mpr q), d3.1 q]; rfl
        · rw [if_neg (fun r => q (k2.mp r)), d3.2 q, zlet_eq, nI_1]
      rw [hst4]
      refine z_inv B3 (fun m' c (E : zD) => fn_X7_any_94 a (fn_X7_any_64 a (fn_X7_any_35 a n) m) m' (nI k) (nI N) (nI i) (nI j) (nI c) E) (fun c E => S3 ≤ c ∧ cV a (zfo (fun c s => stp s (msk k i j c)) (c - S3) S3 s2) E ∧ ivA k N (zfo (fun c s => stp s (msk k i j c)) (c - S3) S3 s2) i j c ∧ ag (pAn a) D E) _ ?_ ?_ S3 zFU E l3 (by unfold zFU; omega) ⟨Nat.le_refl _, by rw [Nat.sub_self]; exact f1, by rw [Nat.sub_self]; exact ivA_up f2 fun a b c t => by unfold lexl at *; omega, f3⟩
      · intro m' c E hc ⟨g0, g1, g2, g3⟩ ih3
        show zok (fn_X7_any_94 a (fn_X7_any_64 a (fn_X7_any_35 a n) m) (m' + 1) (nI k) (nI N) (nI i) (nI j) (nI c) E) _
        have nx3 := zfo_last (fun c s => stp s (msk k i j c)) (c - S3) S3 s2
        rw [show c - S3 + 1 = c + 1 - S3 by omega, show S3 + (c - S3) = c by omega] at nx3
        generalize zfo (fun c s => stp s (msk k i j c)) (c - S3) S3 s2 = s3 at *
        have hv : vld k N i j c := by
          refine ⟨fun q => ?_, fun q => ?_, fun q => ?_, fun q => ?_, fun q => ?_, fun q => ?_⟩
          · have := b1.1 q; omega
          · have := b1.2 q; omega
          · have := b2.1 q; omega
          · have := b2.2 q; have := d2.2 q; omega
          · have := b3.1 q; omega
          · have := b3.2 q; have := d3.2 q; omega
        have hst5 : fn_X7_any_94 a (fn_X7_any_64 a (fn_X7_any_35 a n) m) (m' + 1) (nI k) (nI N) (nI i) (nI j) (nI c) E = fn_X7_any_148 a (fn_X7_any_94 a (fn_X7_any_64 a (fn_X7_any_35 a n) m) m') (nI k) (nI N) (nI i) (nI j) (nI c) ((if k ≤ 0 then 0 else bit1 i) ||| (if k ≤ 1 then 0 else bit1 j)) (if k ≤ 2 then 0 else bit1 c) E := by
          have h106 : fn_X7_any_94 a (fn_X7_any_64 a (fn_X7_any_35 a n) m) (m' + 1) (nI k) (nI N) (nI i) (nI j) (nI c) E = fn_X7_any_106 a (fn_X7_any_64 a (fn_X7_any_35 a n) m) (fn_X7_any_94 a (fn_X7_any_64 a (fn_X7_any_35 a n) m) m') (nI k) (nI N) (nI i) (nI j) (nI c) (nI c) (nI B3) E := by
            rw [fn_X7_any_94]
            by_cases q : k ≤ 2
            · rw [if_pos (k2.mpr q), b3.1 q]; rfl
            · rw [if_neg (fun r => q (k2.mp r)), b3.2 q]
          rw [h106]
          unfold fn_X7_any_106
          rw [if_neg (nI_ge hc (by omega))]
          unfold fn_X7_any_121 fn_X7_any_134
          rw [bit1_u, bit1_u, bit1_u]
          by_cases q0 : k ≤ 0
          · rw [if_pos (k0.mpr q0), if_pos (k1.mpr (by omega)), if_pos (k2.mpr (by omega)), if_pos q0, if_pos (by omega), if_pos (by omega)]
          · rw [if_neg (fun r => q0 (k0.mp r)), if_neg q0]
            by_cases q1 : k ≤ 1
            · rw [if_pos (k1.mpr q1), if_pos (k2.mpr (by omega)), if_pos q1, if_pos (by omega)]
            · rw [if_neg (fun r => q1 (k1.mp r)), if_neg q1]
              by_cases q2 : k ≤ 2
              · rw [if_pos (k2.mpr q2), if_pos q2]
              · rw [if_neg (fun r => q2 (k2.mp r)), if_neg q2]
        rw [hst5]
        refine c_push ha g1 (ivA_new hN.2 hv g2) fun F p1 p2 => ?_
        rw [nI_1]
        exact ih3 F ⟨by omega, by rw [nx3]; exact p1, by rw [nx3]; exact ivA_stp hv g2, g3.trans p2⟩
      · intro m' E ⟨g0, g1, g2, g3⟩
        show zok (fn_X7_any_94 a (fn_X7_any_64 a (fn_X7_any_35 a n) m) (m' + 1) (nI k) (nI N) (nI i) (nI j) (nI B3) E) _
        have h106 : fn_X7_any_94 a (fn_X7_any_64 a (fn_X7_any_35 a n) m) (m' + 1) (nI k) (nI N) (nI i) (nI j) (nI B3) E = fn_X7_any_106 a (fn_X7_any_64 a (fn_X7_any_35 a n) m) (fn_X7_any_94 a (fn_X7_any_64 a (fn_X7_any_35 a n) m) m') (nI k) (nI N) (nI i) (nI j) (nI B3) (nI B3) (nI B3) E := by
          rw [fn_X7_any_94]
          by_cases q : k ≤ 2
          · rw [if_pos (k2.mpr q), b3.1 q]; rfl
          · rw [if_neg (fun r => q (k2.mp r)), b3.2 q]
        rw [h106]
        unfold fn_X7_any_106
        rw [if_pos (nI_le (Nat.le_refl _) (by omega)), nI_1]
        exact ih2 E ⟨by omega, by rw [nx2]; exact g1, by rw [nx2]; exact ivA_up g2 fun a b c t => by unfold lexl at *; omega, g3⟩
    · intro m E ⟨f0, f1, f2, f3⟩
      show zok (fn_X7_any_64 a (fn_X7_any_35 a n) (m + 1) (nI k) (nI N) (nI i) (nI B2) E) _
      have hst3 : fn_X7_any_64 a (fn_X7_any_35 a n) (m + 1) (nI k) (nI N) (nI i) (nI B2) E = fn_X7_any_76 a (fn_X7_any_35 a n) (fn_X7_any_64 a (fn_X7_any_35 a n) m) (nI k) (nI N) (nI i) (nI B2) (nI B2) (nI B2) E := by
        rw [fn_X7_any_64]
        by_cases q : k ≤ 1
        · rw [if_pos (k1.mpr q), b2.1 q]; rfl
        · rw [if_neg (fun r => q (k1.mp r)), b2.2 q]
      rw [hst3]
      unfold fn_X7_any_76
      rw [if_pos (nI_le (Nat.le_refl _) (by omega)), nI_1]
      exact ih E ⟨by rw [nx]; exact f1, by rw [nx]; exact ivA_up f2 fun a b c t => by unfold lexl at *; omega, f3⟩
  · intro n E ⟨e1, e2, e3⟩
    show zok (fn_X7_any_35 a (n + 1) (nI k) (nI N) (nI B1) E) _
    have hst : fn_X7_any_35 a (n + 1) (nI k) (nI N) (nI B1) E = fn_X7_any_46 a (fn_X7_any_35 a n) (nI k) (nI N) (nI B1) (nI B1) (nI B1) E := by
      rw [fn_X7_any_35]
      by_cases q : k ≤ 0
      · rw [if_pos (k0.mpr q), b1.1 q]; rfl
      · rw [if_neg (fun r => q (k0.mp r)), b1.2 q]
    rw [hst]
    unfold fn_X7_any_46
    rw [if_pos (nI_le (Nat.le_refl _) (by omega)), zok_some]
    exact ⟨rfl, e1, e3⟩
end M9x
