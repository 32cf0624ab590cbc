/-! THE MATHEMATICS: the clauses' bodies, both -/
section M9j
variable {D : zD} {n p W h ns nw : Nat} {B : Nat → Int32}
theorem cS.keep {E : zD} (k : cS n B p D) (g : ∀ a b, a = 1 ∨ a = 2 → gI E a b = gI D a b) : cS n B p E := by
  obtain ⟨⟨h1, h2, h3⟩, h4, h5, h6, h7⟩ := k
  exact ⟨⟨h1, by rw [g _ _ (by omega), h2], fun i hi => by rw [g _ _ (by omega)]; exact h3 i hi⟩, h4, by rw [g _ _ (by omega), h5], by rw [g _ _ (by omega), h6], by rw [g _ _ (by omega), h7]⟩
theorem rdS.keep {E : zD} (k : rdS n B p D) (g : ∀ a b, (a = 102 ∧ b ≤ 6) ∨ a = 103 → gI E a b = gI D a b) : rdS n B p E := by
  obtain ⟨⟨h1, h2, h3⟩, h4, h5, h6, h7⟩ := k
  exact ⟨⟨h1, by rw [g _ _ (by omega), h2], fun i hi => by rw [g _ _ (by omega)]; exact h3 i hi⟩, h4, by rw [g _ _ (by omega), h5], by rw [g _ _ (by omega), h6], by rw [g _ _ (by omega), h7]⟩
theorem rdF.keep {f : Nat × Nat} {E : zD} (k : rdF f D) (g : ∀ b, 4 ≤ b ∧ b ≤ 6 → gI E 102 b = gI D 102 b) : rdF f E := ⟨by rw [g 5 (by omega)]; exact k.1, by rw [g 6 (by omega)]; exact k.2.1, k.2.2.1, k.2.2.2.1, by rw [g 4 (by omega)]; exact k.2.2.2.2⟩
theorem c_addSign (h2 : gI D 12 2 = nI ns) (hn : ns < 12) (x : Int32) : fn_X0_addSign 12 x D = some (1, sI (sI (sI D 13 ns x) 14 ns (-1)) 12 2 (nI (ns + 1))) := by
  unfold fn_X0_addSign
  rw [h2, if_neg (nI_pos (by omega)), if_pos (show nI ns < (12 : Int32) from nI_lt (b := 12) hn (by omega)), zck_nI hn (by omega), nI_clamp (by omega), zlet_eq, gI_na (by omega), h2, zck_nI hn (by omega), nI_clamp (by omega), zlet_eq, gI_na (by omega), gI_na (by omega), h2, nI_1, zlet_eq]
theorem pCs_D {E : zD} (g : ag pCs D E) : ag pDc D E := g.mono (by unfold pDc pCs; intros; omega)
theorem pRd_D {E : zD} (g : agL pRd D E) : agL pDr D E := g.mono (by unfold pDr pRd; intros; omega)
theorem dW.cs {E : zD} (d : dW W h ns nw D) (g : ag pCs D E) : dW W h ns nw E := d.keep fun a b _ _ => g _ _ (by unfold pCs; omega)
theorem dR.cs {E F G : zD} (d : dR W h ns nw D E) (hw : nw ≤ 8) (g : ag pCs D F) (k : agL pRd E G) : dR W h ns nw F G := d.keep hw (fun a b _ _ => g _ _ (by unfold pCs; omega)) (fun a b q => k.1 _ _ (by unfold pRd; omega))
theorem bod_sign (hc : cS n B p D) (d : dW W h ns nw D) (hn : ns < 12) : bod n B p W h ns nw (fn_X0_addSign 12 0 D) (fn_X12_readsSign 1) D := by
  have d1 := d.1
  have z2 : un (0 : Int32) < 2 ^ (W * h) := Nat.two_pow_pos _
  unfold bod
  rw [c_addSign d.2.1.2.2.1 hn, zok_some]
  refine ⟨((ag.refl.sI (by unfold pDc; omega)).sI (by unfold pDc; omega)).sI (by unfold pDc; omega), Or.inr ⟨rfl, p, W, h, ns + 1, nw, hc.keep fun a b q => by rw [gI_na (by omega), gI_na (by omega), gI_na (by omega)], d.new hn z2, fun E hE hR => ?_⟩⟩
  unfold fn_X12_readsSign fn_X12_readsSign_20
  rw [if_pos rfl, hE.2.2.2.1, if_pos rfl, r_signNew hR.1.1 hR.1.2.1 hR.1.2.2.1 hn (by omega) (by omega), zok_some]
  refine ⟨agL_sI (agL_sI (agL_sI agL.refl (by unfold pDr; omega)) (by unfold pDr; omega)) (by unfold pDr; omega), ?_, hR.new (by omega)⟩
  unfold rNew
  refine hE.keep fun a b q => ?_
  rcases q with ⟨rfl, q⟩ | rfl
  · rw [gI_nb (by omega), gI_na (by omega), gI_na (by omega)]
  · rw [gI_na (by omega), gI_na (by omega), gI_na (by omega)]
theorem bod_more {hv : Bool} (hc : cS n B p D) (d : dW W h ns nw D) (hn : ns < 12) (v1 : Int32) : bod n B p W h ns nw (fn_X1_oneMore v1 (if hv = true then 1 else 0) D) (fn_X12_readsSign (nI (if hv = true then 5 else 6))) D := by
  have d1 := d.1
  have h30 := wh_le (w := W) (h := h) (by omega) (by omega)
  have hz2 : gI D 12 2 < (12 : Int32) := by rw [d.2.1.2.2.1]; exact nI_lt (b := 12) hn (by omega)
  have hv1 : ¬ nI (if hv = true then 5 else 6) = 1 := by cases hv <;> decide
  unfold bod fn_X1_oneMore
  rw [if_pos hz2, d.2.1.2.2.1]
  refine (c_numberOf hc (lo := 0) (H := ns) (by omega) (by omega)).bind fun q ⟨a1, o1⟩ => ?_
  rcases o1 with ⟨f, z1, z2, z3⟩ | ⟨s, e, z1, z2, z3, z4⟩
  · rw [z2, if_pos rfl, zok_some]
    refine ⟨pCs_D a1, Or.inl ⟨rfl, f, z3, fun E hE hR => ?_⟩⟩
    unfold fn_X12_readsSign fn_X12_readsSign_20
    rw [if_neg hv1, hR.1.2.2.1]
    refine (r_numberOf hE (lo := 0) (H := ns) (by omega) (by omega)).bind fun q2 ⟨b1, o2⟩ => ?_
    rcases o2 with ⟨f', y1, y2⟩ | ⟨_, _, y1, _⟩
    · rw [z1] at y1
      cases y1
      rw [if_neg (rdF_ne y2), zok_some]
      exact ⟨pRd_D b1, y2⟩
    · rw [z1] at y1; cases y1
  · have e2 : gI q.2 12 2 = nI ns := by rw [a1 _ _ (by unfold pCs; omega), d.2.1.2.2.1]
    have e0 : gI q.2 12 0 = nI W := by rw [a1 _ _ (by unfold pCs; omega), d.2.1.1]
    have e1 : gI q.2 12 1 = nI h := by rw [a1 _ _ (by unfold pCs; omega), d.2.1.2.1]
    have e13 : gI q.2 (12 + 1) s = gI D 13 s := a1 _ _ (by unfold pCs; omega)
    rw [z3, if_neg (fun t => (nM1 _ (by omega)).mp t), v_paint e2 z2 (by omega), Option.bind_some, e13]
    have fin : ∀ v, (v = if hv = true then 5 else 6) → zok ((fn_X0_addSign 12 (sTur W h v (gI D 13 s) (W * h)) q.2).bind fun q7 => zcb q7.1 <| (some (q7.1, q7.2))) fun q => ag pDc D q.2 ∧ ((q.1 = 0 ∧ ∃ f, cF f q.2 ∧ ∀ E, rdS n B p E → dR W h ns nw D E → zok (fn_X12_readsSign (nI (if hv = true then 5 else 6)) E) fun F => agL pDr E F ∧ rdF f F) ∨
    (q.1 = 1 ∧ ∃ e a b c d, cS n B e q.2 ∧ dW a b c d q.2 ∧ ∀ E, rdS n B p E → dR W h ns nw D E → zok (fn_X12_readsSign (nI (if hv = true then 5 else 6)) E) fun F => agL pDr E F ∧ rdS n B e F ∧ dR a b c d q.2 F)) := by
      intro v hv'
      rw [c_addSign e2 hn, Option.bind_some, zcb_1, zok_some]
      refine ⟨(pCs_D a1).trans (((ag.refl.sI (by unfold pDc; omega)).sI (by unfold pDc; omega)).sI (by unfold pDc; omega)), Or.inr ⟨rfl, e, W, h, ns + 1, nw, z4.keep fun a b q => by rw [gI_na (by omega), gI_na (by omega), gI_na (by omega)], (d.cs a1).new hn (sTur_un (by omega) h30 _ (Nat.le_refl _)), fun E hE hR => ?_⟩⟩
      unfold fn_X12_readsSign fn_X12_readsSign_20
      rw [if_neg hv1, hR.1.2.2.1, ← hv']
      refine (r_numberOf hE (lo := 0) (H := ns) (by omega) (by omega)).bind fun q2 ⟨b1, o2⟩ => ?_
      rcases o2 with ⟨f', y1, y2⟩ | ⟨s', e', y1, y2, y3, y4⟩
      · rw [z1] at y1; cases y1
      · rw [z1] at y1
        cases y1
        have k := hR.cs (by omega) a1 b1
        rw [y4.2.2.2.1, if_pos rfl, y3, r_turn k.1.1 k.1.2.1 k.1.2.2.1 hn (by omega) (by omega) (by cases hv; exact Or.inr hv'; exact Or.inl hv') (by omega), zok_some, (k.2.1 s z2).1, a1 13 s (by unfold pCs; omega)]
        refine ⟨(pRd_D b1).trans (agL_sI (agL_sI (agL_sI agL.refl (by unfold pDr; omega)) (by unfold pDr; omega)) (by unfold pDr; omega)), ?_, k.new (by omega)⟩
        unfold rNew
        refine y4.keep fun a b q => ?_
        rcases q with ⟨rfl, q⟩ | rfl
        · rw [gI_nb (by omega), gI_na (by omega), gI_na (by omega)]
        · rw [gI_na (by omega), gI_na (by omega), gI_na (by omega)]
    cases hv
    · rw [if_pos (show (if false = true then (1 : Int32) else 0) = 0 by decide), c_mirrored e0 e1 (by omega) (by omega), Option.bind_some]
      exact fin 6 rfl
    · rw [if_neg (show ¬ (if true = true then (1 : Int32) else 0) = 0 by decide), c_half e0 e1 (by omega) (by omega), Option.bind_some]
      exact fin 5 rfl
theorem bod_stroke {dn : Bool} (hc : cS n B p D) (d : dW W h ns nw D) (hn : 1 ≤ ns) : bod n B p W h ns nw (fn_X1_stroke (if dn = true then 0 else 1) D) (fn_X12_readsStroke (if dn = true then 3 else 2)) D := by
  have d1 := d.1
  have h30 := wh_le (w := W) (h := h) (by omega) (by omega)
  unfold bod
  refine (c_stroke hc d.2.1.1 d.2.1.2.1 d.2.1.2.2.1 (by omega) (by omega) (by omega)).mono fun q o => ?_
  rcases o with ⟨f, z1, z2, z3, z4⟩ | ⟨c, r, l, e, z1, z2, z3, z4, z5, z6, E0, z7, z8⟩
  · refine ⟨pCs_D z4, Or.inl ⟨z2, f, z3, fun E hE hR => ?_⟩⟩
    refine (r_stroke hE hR.1.1 hR.1.2.1 hR.1.2.2.1 (by omega) (by omega) (by omega)).mono fun F o => ?_
    rcases o with ⟨f', y1, y2, y3⟩ | ⟨_, _, _, _, y1, _⟩
    · rw [z1] at y1
      cases y1
      exact ⟨pRd_D y3, y2⟩
    · rw [z1] at y1; cases y1
  · have hu : un (sStk W c r dn (gI D 13 (ns - 1)) l) < 2 ^ (W * h) := sStk_un h30 (d.2.2.1 _ (by omega)).1 _ fun i hi => stB_lt z2 z3 z4 hi
    refine ⟨by rw [z8]; exact (pCs_D z7).sI (by unfold pDc; omega), Or.inr ⟨z5, e, W, h, ns, nw, z6, by rw [z8]; exact (d.cs z7).paint hu, fun E hE hR => ?_⟩⟩
    refine (r_stroke hE hR.1.1 hR.1.2.1 hR.1.2.2.1 (by omega) (by omega) (by omega)).mono fun F o => ?_
    rcases o with ⟨f', y1, y2, y3⟩ | ⟨c', r', l', e', y1, G, y2, y3, y4, y5⟩
    · rw [z1] at y1; cases y1
    · rw [z1] at y1
      cases y1
      have k := hR.cs (by omega) z7 y2
      have e104 : gI G 104 (ns - 1) = gI D 13 (ns - 1) := by rw [(k.2.1 _ (by omega)).1, z7 13 _ (by unfold pCs; omega)]
      rw [e104] at y4
      refine ⟨(pRd_D y2).trans ⟨fun a b q => ?_, y5⟩, y3.keep fun a b q => ?_, by rw [z8]; exact k.paint (by omega) y4⟩
      · rw [y4, if_neg (by unfold pDr at q; omega)]
      · rw [y4, if_neg (by omega)]
theorem r_cleanB (hc : rdS n B p D) (h10 : gI D 102 10 = nI W) (h11 : gI D 102 11 = nI h) (h12 : gI D 102 12 = nI ns) (hn : 1 ≤ ns ∧ ns ≤ 12) (hW : W ≤ 6) (hh : h ≤ 5) : zok (fn_X12_readsStroke 4 D) fun E => (∃ f, clN n B W h p = .inl f ∧ rdF f E ∧ agL pRd D E) ∨ ∃ c r e, clN n B W h p = .inr (c, r, e) ∧ ∃ F, agL pRd D F ∧ rdS n B e F ∧ E = sI F 104 (ns - 1) (gI F 104 (ns - 1) &&& (bit1 (W * r + c) ^^^ -1)) := by
  have hF : ∀ {f : Nat × Nat} {E : zD}, rdF f E → ∀ v2 v3 : Int32, fn_X12_readsStroke_63 4 zFU v2 v3 1 0 E = some E := fun {f} {E} k v2 v3 => by
    show fn_X12_readsStroke_63 4 (4294967295 + 1) v2 v3 1 0 E = some E
    rw [fn_X12_readsStroke_63, if_neg (show ¬ (1 : Int32) ≤ 0 by decide), if_neg (rdF_ne k)]
  unfold fn_X12_readsStroke clN
  rw [h10]
  refine (r_numberOf hc (lo := 0) (H := W) (by omega) (by omega)).bind fun q ⟨a1, o1⟩ => ?_
  have e11 : gI q.2 102 11 = nI h := by rw [a1.1 _ _ (by unfold pRd; omega), h11]
  rw [e11]
  rcases o1 with ⟨f, z1, z2⟩ | ⟨c, e1, z1, z2, z3, z4⟩
  · rw [z1, r_numberF z2, Option.bind_some, if_pos rfl, hF z2, zok_some]
    exact Or.inl ⟨f, rfl, z2, a1⟩
  rw [z1, z3]
  refine (r_numberOf z4 (lo := 0) (H := h) (by omega) (by omega)).bind fun q2 ⟨a2, o2⟩ => ?_
  have a12 := a1.trans a2
  rw [if_pos rfl]
  rcases o2 with ⟨f, y1, y2⟩ | ⟨r, e2, y1, y2, y3, y4⟩
  · rw [hF y2, zok_some]
    exact Or.inl ⟨f, by show (match nm n B 0 h e1 with | .inl f => _ | .inr (r, e2) => _) = _; rw [y1], y2, a12⟩
  · rw [y3, r_clean63 (W := W) (ns := ns) (by rw [a12.1 _ _ (by unfold pRd; omega), h10]) (by rw [a12.1 _ _ (by unfold pRd; omega), h12]) y4.2.2.2.1 hn, zok_some]
    exact Or.inr ⟨c, r, e2, by show (match nm n B 0 h e1 with | .inl f => _ | .inr (r, e2) => _) = _; rw [y1], q2.2, a12, y4, rfl⟩
theorem bod_clean (hc : cS n B p D) (d : dW W h ns nw D) (hn : 1 ≤ ns) : bod n B p W h ns nw (fn_X1_clean D) (fn_X12_readsStroke 4) D := by
  have d1 := d.1
  have h30 := wh_le (w := W) (h := h) (by omega) (by omega)
  unfold bod
  refine (c_clean hc d.2.1.1 d.2.1.2.1 d.2.1.2.2.1 (by omega) (by omega) (by omega)).mono fun q o => ?_
  rcases o with ⟨f, z1, z2, z3, z4⟩ | ⟨c, r, e, z1, z2, z3, z5, z6, E0, z7, z8⟩
  · refine ⟨pCs_D z4, Or.inl ⟨z2, f, z3, fun E hE hR => ?_⟩⟩
    refine (r_cleanB hE hR.1.1 hR.1.2.1 hR.1.2.2.1 (by omega) (by omega) (by omega)).mono fun F o => ?_
    rcases o with ⟨f', y1, y2, y3⟩ | ⟨_, _, _, y1, _⟩
    · rw [z1] at y1
      cases y1
      exact ⟨pRd_D y3, y2⟩
    · rw [z1] at y1; cases y1
  · have hu : un (gI D 13 (ns - 1) &&& (bit1 (W * r + c) ^^^ -1)) < 2 ^ (W * h) := un_and (by omega) (d.2.2.1 _ (by omega)).1
    refine ⟨by rw [z8]; exact (pCs_D z7).sI (by unfold pDc; omega), Or.inr ⟨z5, e, W, h, ns, nw, z6, by rw [z8]; exact (d.cs z7).paint hu, fun E hE hR => ?_⟩⟩
    refine (r_cleanB hE hR.1.1 hR.1.2.1 hR.1.2.2.1 (by omega) (by omega) (by omega)).mono fun F o => ?_
    rcases o with ⟨f', y1, y2, y3⟩ | ⟨c', r', e', y1, G, y2, y3, y4⟩
    · rw [z1] at y1; cases y1
    · rw [z1] at y1
      cases y1
      have k := hR.cs (by omega) z7 y2
      have e104 : gI G 104 (ns - 1) = gI D 13 (ns - 1) := by rw [(k.2.1 _ (by omega)).1, z7 13 _ (by unfold pCs; omega)]
      rw [e104] at y4
      rw [y4]
      refine ⟨(pRd_D y2).trans (agL_sI agL.refl (by unfold pDr; omega)), y3.keep fun a b q => by rw [gI_na (by omega)], by rw [z8]; exact k.paint (by omega) fun a b => rfl⟩
end M9j
