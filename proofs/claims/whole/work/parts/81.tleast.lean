/-! THE MATHEMATICS: the least part, both -/
section M81
variable {D : zD} {P : Nat → Nat} {nc c ns d w k : Nat} {cv : Nat → Int32}
theorem pLe_iv {E : zD} (h : iv P D) (g : ag pLe D E) : iv P E := h.keep (g.mono (by unfold pLe pcr pA pB pS pI pT; intros; omega)) (g.mono (by unfold pLe pK; intros; omega)) (g.mono (by unfold pLe pO; intros; omega))
theorem tls_cong {pt qt : Nat → Int32} {e s : Nat} {T : Int32} (h : ∀ o, o < ns → pt o = qt o) (hs : s < ns) : tls ns pt e s T ↔ tls ns qt e s T := by
  unfold tls
  constructor
  · intro g o ho hos
    rw [← h o ho, ← h s hs]
    exact g o ho hos
  · intro g o ho hos
    rw [h o ho, h s hs]
    exact g o ho hos
theorem tk_least (h : iv P D) (v u : Int32) : twin (wk2 3 1) (fn_X11_least v u D) (fn_X12_least v u) := by
  have h' := h
  obtain ⟨⟨⟨hb, ⟨a0, a1, a2, a3⟩, ⟨b0, b1, b2, b3⟩, hs, hw⟩, ⟨hc, c1, c2, hcv⟩, ⟨hd, ⟨z0, z1, z2⟩, ⟨y0, y1, y2⟩, hp, ht⟩, ⟨hi, i0, i1, him⟩, ⟨hta, ta0, ta1, hpl, htb⟩⟩, hK, hO⟩ := h
  replace y0 : gI _ 102 34 = nI (P 5) := y0
  replace y1 : gI _ 102 35 = nI (P 6) := y1
  replace y2 : gI _ 102 36 = nI (P 7) := y2
  have h30 := wh_le (w := P 0) (h := P 1) (by omega) (by omega)
  unfold fn_X11_least
  rcases x_inN (v := v) (n := P 2) (by omega) with ⟨e, g⟩ | ⟨e, s, hs', rfl⟩
  · refine twin_tt h' (e := 3) (t := 1) rfl (by decide) (by rw [c_needSign a2 g]; rfl) fun E hE he => ?_
    rw [gE he] at b2
    unfold fn_X12_least fn_X12_isSign
    rw [zlet_eq, gI_nb (by omega), b2, e, Option.bind_some, zcb_0, Option.bind_some, if_pos rfl]
    unfold fn_X12_least_19
    rw [x_badT1, Option.bind_some]
    exact if_neg (show ¬ (1 : Int32) = 0 by decide)
  · rw [c_needSignJ a2 hs' (by omega), Option.bind_some, if_pos rfl]
    rcases x_inK (v := u) (n := 1) (by omega) with ⟨e2, g⟩ | ⟨e2, j, hj, rfl⟩
    · replace e2 : fn_X12_in u 0 1 = some 0 := e2
      refine twin_tt h' (e := 1) (t := 2) rfl (by decide) (by rw [show (1 : Int32) = nI 1 from rfl, c_needWhat (by omega) g]; rfl) fun E hE he => ?_
      rw [gE he] at b2
      unfold fn_X12_least fn_X12_isSign
      rw [zlet_eq, gI_nb (by omega), b2, e, Option.bind_some, zcb_1, Option.bind_some, if_neg (by decide)]
      unfold fn_X12_least_19
      rw [x_badF, Option.bind_some, if_pos rfl, e2, Option.bind_some, if_pos rfl]
      unfold fn_X12_least_41
      rw [show (2 : Int32) = nI 2 from rfl, x_badT2, Option.bind_some]
      exact if_neg (show ¬ (1 : Int32) = 0 by decide)
    · replace e2 : fn_X12_in (nI j) 0 1 = some 1 := e2
      have hkey : (10 : Int32) + (2 : Int32) * nI s = nI (10 + 2 * s) := by rw [show (2 : Int32) * nI s = nI (2 * s) from pk_mul 2 _, show (10 : Int32) = nI 10 from rfl, nI_add]
      rw [show fn_X11_needWhat (nI j) 1 = some 0 from c_needWhatJ (n := 1) (by omega) hj, Option.bind_some, if_pos rfl, zlet_eq, hkey, c_keptAt (by omega), Option.bind_some]
      have main : ∀ F, iv P F → gI F 105 = gI D 105 → sp_le (P 0 * P 1) (P 2) (gI D 105) (2 * P 5) s (gI F 101 (10 + 2 * s)) (gI F 101 (11 + 2 * s)) → twin (wk2 3 1) (fn_X11_least_100 (nI s) (nI j) (nI (10 + 2 * s)) F) (fn_X12_least (nI s) (nI j)) := by
        intro F hF f105 hsp
        unfold fn_X11_least_100
        rw [nI_add, c_keptAt (by omega), Option.bind_some]
        refine zok_some.mpr fun E hE => ?_
        have hi' := (hF.int hE).thr 0
        have g105 : gI (sI E 102 0 0) 105 = gI D 105 := by rw [gIf (by omega), ← f105]; exact funext fun b => by show E.2 105 b = _; rw [hE]; rfl
        have r16 := hi'.1.1.2.2.1.2.2.1
        unfold fn_X12_least fn_X12_isSign
        rw [zlet_eq, r16, e, Option.bind_some, zcb_1, Option.bind_some, if_neg (by decide)]
        unfold fn_X12_least_19
        rw [x_badF, Option.bind_some, if_pos rfl, e2, Option.bind_some, if_neg (by decide)]
        unfold fn_X12_least_41
        rw [x_badF, Option.bind_some, if_pos rfl]
        refine (r_least52 (w := P 0) (k := P 1) (ns := P 2) (d := P 5) hi'.1.1.2.2.1.1 hi'.1.1.2.2.1.2.1 (by omega) (by omega) r16 (by omega) hi'.1.2.2.1.2.2.1.1 (by omega) hs' (v := j) (by omega)).mono fun r ⟨r1, n, b, r2, r3⟩ => ?_
        rw [g105] at r2
        obtain ⟨o1, o2⟩ := sp_le_one hsp r2
        refine ⟨⟨P, by rw [r1]; exact hi'⟩, ⟨by rw [r1]; exact gI_eq, ?_⟩, by rw [r1]; rfl⟩
        show r.1 = gI F 101 (10 + 2 * s + j)
        rw [r3]
        rcases (show j = 0 ∨ j = 1 by omega) with rfl | rfl
        · rw [if_pos rfl]; exact o1.symm
        · rw [if_neg (by decide), ← o2, show 10 + 2 * s + 1 = 11 + 2 * s by omega]
      by_cases q : gI D 101 (10 + 2 * s) = -1000000
      · rw [if_pos q, z0, show (2 : Int32) * nI (P 5) + 1 = nI (2 * P 5 + 1) from by rw [show (2 : Int32) * nI (P 5) = nI (2 * P 5) from pk_mul 2 _, nI_1]]
        have tc : ∀ X, tls (P 2) (gI D 4) (2 * P 5) s X ↔ tls (P 2) (gI D 105) (2 * P 5) s X := fun X => tls_cong (fun o ho => (hs o ho).1) hs'
        refine (c_findLe a2 (by omega) hs' (by omega) h30 (show fn_X0_cells 3 D = some (nI (P 0 * P 1)) from by unfold fn_X0_cells; rw [a0, a1, pk_mul])).bind fun r ⟨r1, r2⟩ => ?_
        have hr := pLe_iv h' r2
        have f105 : gI r.2 105 = gI D 105 := funext fun b => r2 _ _ (by unfold pLe; omega)
        have f128 : gI r.2 128 = gI D 128 := funext fun b => r2 _ _ (by unfold pLe; omega)
        have fin : ∀ x y, sp_le (P 0 * P 1) (P 2) (gI D 105) (2 * P 5) s x y → twin (wk2 3 1) (fn_X11_least_100 (nI s) (nI j) (nI (10 + 2 * s)) (sI (sI r.2 101 (10 + 2 * s) x) 101 (11 + 2 * s) y)) (fn_X12_least (nI s) (nI j)) := by
          intro x y hsp
          have hg : ag pM r.2 (sI (sI r.2 101 (10 + 2 * s) x) 101 (11 + 2 * s) y) := (ag.refl.sI (by unfold pM; omega)).sI (by unfold pM; omega)
          have v1 : gI (sI (sI r.2 101 (10 + 2 * s) x) 101 (11 + 2 * s) y) 101 (10 + 2 * s) = x := by rw [gI_nb (by omega), gI_eq]
          have v2 : gI (sI (sI r.2 101 (10 + 2 * s) x) 101 (11 + 2 * s) y) 101 (11 + 2 * s) = y := gI_eq
          have fr : ∀ b, b ≠ 10 + 2 * s → b ≠ 11 + 2 * s → gI (sI (sI r.2 101 (10 + 2 * s) x) 101 (11 + 2 * s) y) 101 b = gI r.2 101 b := fun b b1 b2 => by rw [gI_nb b2, gI_nb b1]
          refine main _ (pM_iv hr hg (hr.2.1.mk hg (Or.inl ⟨fr _ (by omega) (by omega), fr _ (by omega) (by omega)⟩) (Or.inl ⟨fr _ (by omega) (by omega), fr _ (by omega) (by omega), fr _ (by omega) (by omega)⟩) (Or.inl ⟨fr _ (by omega) (by omega), fr _ (by omega) (by omega)⟩) (Or.inl (fr _ (by omega) (by omega))) (Or.inl (fr _ (by omega) (by omega))) (Or.inl (fr _ (by omega) (by omega))) (fun o ho => ?_))) (by rw [gIf (by omega), gIf (by omega), f105]) (by rw [v1, v2]; exact hsp)
          by_cases qo : o = s
          · subst qo
            exact Or.inr (by rw [v1, v2, f105]; exact hsp)
          · exact Or.inl ⟨fr _ (by omega) (by omega), fr _ (by omega) (by omega)⟩
        rcases r1 with ⟨q1, q2⟩ | ⟨q1, T, t1, t2, t3, t4, t5, t6⟩
        · rw [q1, if_pos rfl]
          unfold fn_X11_least_74
          rw [c_keep (by omega), Option.bind_some, if_pos rfl]
          unfold fn_X11_least_97
          rw [nI_1, c_keep (by omega), Option.bind_some, show 10 + 2 * s + 1 = 11 + 2 * s by omega]
          exact fin _ _ (Or.inr ⟨fun T t1 t2 => q2 T t1 ((tc _).mpr t2), rfl, rfl⟩)
        · rw [q1, if_neg (by decide), t6, pc_bit, Option.bind_some]
          unfold fn_X11_least_74
          rw [c_keep (by omega), Option.bind_some, if_neg (by decide)]
          unfold fn_X11_least_97
          rw [nI_1, c_keep (by omega), Option.bind_some, show 10 + 2 * s + 1 = 11 + 2 * s by omega, gI_na (by omega), t6]
          exact fin _ _ (Or.inl ⟨T, t1, (tc _).mp t2, t3, fun U u1 u2 => t4 U u1 ((tc _).mpr u2), fun U u1 u2 u3 => t5 U u1 u2 ((tc _).mpr u3), rfl, rfl⟩)
      · rw [if_neg q]
        rcases hK.2.2.2.2.2.2.2 s hs' with k | k
        · exact absurd k q
        · exact main D h' rfl k
end M81
