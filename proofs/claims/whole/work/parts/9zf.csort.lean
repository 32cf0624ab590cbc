/-! THE MATHEMATICS: sorting, the class -/
section M9zf
variable {D : zD} {c g : Nat}
theorem div3 {g : Nat} (hg : g ≤ 500) {α : Type} (f : Int32 → Option α) : (zdv (3 : Int32) <| zlet (nI g / (3 : Int32)) f) = f (nI (g / 3)) := by
  rw [show (zdv (3 : Int32) <| zlet (nI g / (3 : Int32)) f) = zlet (nI g / (3 : Int32)) f from if_neg (by decide), zlet_eq, show (3 : Int32) = nI 3 from rfl, nDn _ _ (by omega) (by omega) (by omega)]
theorem c_pass {k4 : Int32 → zD → Option zD} {Q : zD → Prop} (hg : 1 ≤ g ∧ g ≤ 500) (hc : 1 ≤ c ∧ c ≤ 500) (h1 : gI D 20 1 = nI c) (hQ : ∀ E, ag (fun a _ => a ≠ 21) D E → (∀ y, cnt (gI E 21) c y = cnt (gI D 21) c y) → (g = 1 → srt (gI E 21) c) → zok (k4 (nI (g / 3)) E) Q) : zok (fn_X3_sort_10 20 k4 zFU (nI g) (nI g) D) Q := by
  have c1 : ∀ {E : zD}, ag (fun a _ => a ≠ 21) D E → gI E 20 1 = nI c := fun k => by rw [k _ _ (by omega)]; exact h1
  by_cases hgc : c ≤ g
  · show zok (fn_X3_sort_10 20 k4 (4294967295 + 1) (nI g) (nI g) D) Q
    rw [fn_X3_sort_10, h1, if_pos (nI_le hgc (by omega)), div3 hg.2]
    exact hQ D ag.refl (fun y => rfl) fun h i j hi hj => by rw [show i = j by omega]; exact Int.le_refl _
  · refine z_inv c (fun n i (E : zD) => fn_X3_sort_10 20 k4 n (nI g) (nI i) E) (fun i E => g ≤ i ∧ ag (fun a _ => a ≠ 21) D E ∧ (∀ y, cnt (gI E 21) c y = cnt (gI D 21) c y) ∧ (g = 1 → srt (gI E 21) i)) _ ?_ ?_ g zFU D (by omega) (by unfold zFU; omega) ⟨Nat.le_refl _, ag.refl, fun y => rfl, fun h i j hi hj => by rw [show i = j by omega]; exact Int.le_refl _⟩
    · intro n i E hi ⟨e0, e1, e2, e3⟩ ih
      show zok (fn_X3_sort_10 20 k4 (n + 1) (nI g) (nI i) E) _
      rw [fn_X3_sort_10, c1 e1, if_neg (nI_ge hi (by omega)), if_neg (show ¬ (500 : Int32) ≤ nI i from nI_ge (a := i) (b := 500) (by omega) (by omega)), zck_nI (by omega) (by omega), nI_clamp (by omega), zlet_eq]
      show zok (fn_X3_sort_35 20 (fn_X3_sort_10 20 k4 n) zFU (nI g) (nI i) (gI E 21 i) (nI i) E) Q
      generalize hx : gI E 21 i = x
      have inner : ∀ (w : Nat), ∀ (m : Nat) (F : zD), w < m → w ≤ i → ag (fun a _ => a ≠ 21) D F → (∀ y, cnt (updI (gI F 21) w x) c y = cnt (gI D 21) c y) → (g = 1 → (∀ a b, a ≤ b → b ≤ i → a ≠ w → b ≠ w → ky (gI F 21 a) ≤ ky (gI F 21 b)) ∧ ∀ b, w < b → b ≤ i → ky x ≤ ky (gI F 21 b)) → zok (fn_X3_sort_35 20 (fn_X3_sort_10 20 k4 n) m (nI g) (nI i) x (nI w) F) Q := by
        intro w
        induction w using Nat.strongRecOn with
        | _ w ihw =>
        intro m F hm hw f1 f2 f3
        obtain ⟨m, rfl⟩ : ∃ z, m = z + 1 := ⟨m - 1, by omega⟩
        have put : (g = 1 → ∀ a, a < w → ky (gI F 21 a) ≤ ky x) → zok (fn_X3_sort_82 20 (fn_X3_sort_10 20 k4 n) (nI g) (nI i) x (nI w) F) Q := by
          intro hlow
          unfold fn_X3_sort_82
          rw [zck_nI (by omega) (by omega), nI_clamp (by omega), zlet_eq, nI_1]
          have eg : ∀ k, gI (sI F (20 + 1) w x) 21 k = updI (gI F 21) w x k := fun k => by
            unfold updI
            by_cases t : k = w
            · rw [if_pos t, t]; exact gI_eq
            · rw [if_neg t, gI_nb t]
          refine ih _ ⟨by omega, f1.sI (by omega), fun y => ?_, fun hg1 a b h1 h2 => ?_⟩
          · rw [← f2 y]
            exact cnt_cong fun k _ => eg k
          · rw [eg, eg]
            unfold updI
            by_cases t1 : a = w
            · by_cases t2 : b = w
              · rw [if_pos t1, if_pos t2]; exact Int.le_refl _
              · rw [if_pos t1, if_neg t2]; exact (f3 hg1).2 b (by omega) (by omega)
            · by_cases t2 : b = w
              · rw [if_neg t1, if_pos t2]; exact hlow hg1 a (by omega)
              · rw [if_neg t1, if_neg t2]; exact (f3 hg1).1 a b h1 (by omega) t1 t2
        rw [fn_X3_sort_35]
        have ew : nI w < nI g ↔ w < g := nLt _ _ (by omega) (by omega)
        by_cases q : w < g
        · rw [if_pos (ew.mpr q)]
          exact put fun hg1 a ha => by omega
        · rw [if_neg (fun r => q (ew.mp r)), nSn _ _ (by omega), zck_nI (by omega) (by omega), nI_clamp (by omega), c_isBefore, Option.bind_some]
          by_cases q2 : ky x < ky (gI F (20 + 1) (w - g))
          · rw [if_pos q2, if_neg (by decide), zck_nI (by omega) (by omega), zck_nI (by omega) (by omega), nI_clamp (by omega), zlet_eq, zlet_eq]
            have eg : ∀ k, gI (sI F (20 + 1) w (gI F (20 + 1) (w - g))) 21 k = updI (gI F 21) w (gI F 21 (w - g)) k := fun k => by
              unfold updI
              by_cases t : k = w
              · rw [if_pos t, t]; exact gI_eq
              · rw [if_neg t, gI_nb t]
            refine ihw (w - g) (by omega) m _ (by omega) (by omega) (f1.sI (by omega)) (fun y => ?_) fun hg1 => ⟨fun a b h1 h2 t1 t2 => ?_, fun b h1 h2 => ?_⟩
            · have z1 := cnt_upd (i := w) (x := x) (gI F 21) y c (by omega)
              have z2 := cnt_upd (i := w) (x := gI F 21 (w - g)) (gI F 21) y c (by omega)
              have z3 := cnt_upd (i := w - g) (x := x) (updI (gI F 21) w (gI F 21 (w - g))) y c (by omega)
              rw [show updI (gI F 21) w (gI F 21 (w - g)) (w - g) = gI F 21 (w - g) from if_neg (by omega)] at z3
              rw [← f2 y, show cnt (updI (gI (sI F (20 + 1) w (gI F (20 + 1) (w - g))) 21) (w - g) x) c y = cnt (updI (updI (gI F 21) w (gI F 21 (w - g))) (w - g) x) c y from cnt_cong fun k _ => by
                show (if k = w - g then x else _) = (if k = w - g then x else _)
                rw [eg]]
              omega
            · rw [eg, eg]
              unfold updI
              by_cases s1 : a = w
              · by_cases s2 : b = w
                · rw [if_pos s1, if_pos s2]; exact Int.le_refl _
                · rw [if_pos s1, if_neg s2]; exact (f3 hg1).1 _ _ (by omega) (by omega) (by omega) (by omega)
              · by_cases s2 : b = w
                · rw [if_neg s1, if_pos s2]; exact (f3 hg1).1 _ _ (by omega) (by omega) (by omega) (by omega)
                · rw [if_neg s1, if_neg s2]; exact (f3 hg1).1 _ _ h1 h2 s1 s2
            · rw [eg]
              unfold updI
              by_cases s2 : b = w
              · rw [if_pos s2]; exact Int.le_of_lt q2
              · rw [if_neg s2]; exact (f3 hg1).2 b (by omega) h2
          · rw [if_neg q2, if_pos rfl]
            refine put fun hg1 a ha => ?_
            have z1 := (f3 hg1).1 a (w - g) (by omega) (by omega) (by omega) (by omega)
            have z2 : ¬ ky x < ky (gI F 21 (w - g)) := q2
            omega
      refine inner i zFU E (zfu_gt (by omega)) (Nat.le_refl _) e1 (fun y => ?_) fun hg1 => ⟨fun a b h1 h2 t1 t2 => e3 hg1 a b h1 (by omega), fun b h1 h2 => by omega⟩
      rw [← e2 y]
      refine cnt_cong fun k _ => ?_
      unfold updI
      by_cases t : k = i
      · rw [if_pos t, t, hx]
      · rw [if_neg t]
    · intro n E ⟨e0, e1, e2, e3⟩
      show zok (fn_X3_sort_10 20 k4 (n + 1) (nI g) (nI c) E) _
      rw [fn_X3_sort_10, c1 e1, if_pos (nI_le (Nat.le_refl _) (by omega)), div3 hg.2]
      exact hQ E e1 e2 e3
theorem c_sort (hc : 1 ≤ c ∧ c ≤ 500) (h1 : gI D 20 1 = nI c) : zok (fn_X3_sort 20 D) fun E => srt (gI E 21) c ∧ (∀ y, cnt (gI E 21) c y = cnt (gI D 21) c y) ∧ ag (fun a _ => a ≠ 21) D E := by
  unfold fn_X3_sort
  have step : ∀ (m g : Nat) (E : zD) (Q : zD → Prop), 1 ≤ g ∧ g ≤ 500 → ag (fun a _ => a ≠ 21) D E → (∀ y, cnt (gI E 21) c y = cnt (gI D 21) c y) → (∀ F, ag (fun a _ => a ≠ 21) D F → (∀ y, cnt (gI F 21) c y = cnt (gI D 21) c y) → (g = 1 → srt (gI F 21) c) → zok (fn_X3_sort_4 20 m (nI (g / 3)) F) Q) → zok (fn_X3_sort_4 20 (m + 1) (nI g) E) Q := by
    intro m g E Q hg e1 e2 hQ
    rw [fn_X3_sort_4, if_neg (fun r => by have := (nLe0 g (by omega)).mp r; omega)]
    exact c_pass hg hc (by rw [e1 _ _ (by omega)]; exact h1) fun F f1 f2 f3 => hQ F (e1.trans f1) (fun y => by rw [f2 y, e2 y]) f3
  show zok (fn_X3_sort_4 20 (4294967289 + 1 + 1 + 1 + 1 + 1 + 1 + 1) (nI 364) D) _
  refine step _ 364 D _ (by omega) ag.refl (fun y => rfl) fun E e1 e2 _ => ?_
  refine step _ 121 E _ (by omega) e1 e2 fun E e1 e2 _ => ?_
  refine step _ 40 E _ (by omega) e1 e2 fun E e1 e2 _ => ?_
  refine step _ 13 E _ (by omega) e1 e2 fun E e1 e2 _ => ?_
  refine step _ 4 E _ (by omega) e1 e2 fun E e1 e2 _ => ?_
  refine step _ 1 E _ (by omega) e1 e2 fun E e1 e2 e3 => ?_
  show zok (fn_X3_sort_4 20 (4294967289 + 1) (nI 0) E) _
  rw [fn_X3_sort_4, if_pos (show nI 0 ≤ (0 : Int32) by decide), zok_some]
  exact ⟨e3 rfl, e2, e1⟩
end M9zf
