/-! THE MATHEMATICS: corner, front, fog and any, both -/
section M9z
variable {D : zD} {n p e W h k : Nat} {B : Nat → Int32} {R : zD → Option zD}
def rCor (D32 : zD) : Option zD := (fn_X12_number (0 : Int32) (3 : Int32) D32).bind fun q33 => (if (gI q33.2 102 15) ≤ (gI q33.2 102 14) then ((fn_X12_plain_167 q33.1 (1 : Int32) (gI q33.2 102 15) q33.2)) else ((fn_X12_plain_167 q33.1 (1 : Int32) (gI q33.2 102 14) q33.2)))
def cox (j W L : Nat) : Nat := if j = 1 ∨ j = 3 then W - L else 0
def coy (j h L : Nat) : Nat := if 2 ≤ j then h - L else 0
theorem r_cor167 {j : Nat} {G : zD} (h14 : gI G 102 14 = nI W) (h15 : gI G 102 15 = nI h) (hW : W ≤ 6) (hh : h ≤ 6) : (if (gI G 102 15) ≤ (gI G 102 14) then ((fn_X12_plain_167 (nI j) (1 : Int32) (gI G 102 15) G)) else ((fn_X12_plain_167 (nI j) (1 : Int32) (gI G 102 14) G))) = fn_X12_plain_167 (nI j) (nI 1) (nI (min W h + 1) - 1) G := by
  rw [h14, h15]
  by_cases q : h ≤ W
  · rw [if_pos (nI_le q (by omega)), ← hM, show min W h = h by omega]; rfl
  · rw [if_neg (nI_ge (by omega) (by omega)), ← hM, show min W h = W by omega]; rfl
theorem r_corT {j L : Nat} {G : zD} (hj : j < 4) (h14 : gI G 102 14 = nI W) (h15 : gI G 102 15 = nI h) (hW : W ≤ 6) (hh : h ≤ 5) (hL : L ≤ 6) (h1 : L ≤ W) (h3 : L ≤ h) :
    (zdv (2 : Int32) <| (if (nI j - nI j / (2 : Int32) * (2 : Int32)) = (1 : Int32) then ((fn_X12_plain_190 (nI j) (nI L) ((gI G 102 14) - nI L) G)) else ((fn_X12_plain_190 (nI j) (nI L) (0 : Int32) G)))) = (fn_X12_makes (rbl W (cox j W L) (coy j h L) L L) G).bind fun D => some D := by
  rw [show (zdv (2 : Int32) <| (if (nI j - nI j / (2 : Int32) * (2 : Int32)) = (1 : Int32) then ((fn_X12_plain_190 (nI j) (nI L) ((gI G 102 14) - nI L) G)) else ((fn_X12_plain_190 (nI j) (nI L) (0 : Int32) G)))) = (if (nI j - nI j / (2 : Int32) * (2 : Int32)) = (1 : Int32) then ((fn_X12_plain_190 (nI j) (nI L) ((gI G 102 14) - nI L) G)) else ((fn_X12_plain_190 (nI j) (nI L) (0 : Int32) G))) from if_neg (by decide)]
  unfold fn_X12_plain_190 fn_X12_plain_205 cox coy
  rw [h14, h15]
  rcases (show j = 0 ∨ j = 1 ∨ j = 2 ∨ j = 3 by omega) with rfl | rfl | rfl | rfl
  · have z := r_blkX (D := G) (x := 0) (y := 0) (w := L) (h := L) h14 (by omega) (by omega) (by omega) (by omega)
    show (fn_X12_block (nI 0) (nI 0) (nI L) (nI L) G).bind _ = _
    rw [z]; rfl
  · have z := r_blkX (D := G) (x := W - L) (y := 0) (w := L) (h := L) h14 (by omega) (by omega) (by omega) (by omega)
    show (fn_X12_block (nI W - nI L) (nI 0) (nI L) (nI L) G).bind _ = _
    rw [nSn _ _ h1, z]; rfl
  · have z := r_blkX (D := G) (x := 0) (y := h - L) (w := L) (h := L) h14 (by omega) (by omega) (by omega) (by omega)
    show (fn_X12_block (nI 0) (nI h - nI L) (nI L) (nI L) G).bind _ = _
    rw [nSn _ _ h3, z]; rfl
  · have z := r_blkX (D := G) (x := W - L) (y := h - L) (w := L) (h := L) h14 (by omega) (by omega) (by omega) (by omega)
    show (fn_X12_block (nI W - nI L) (nI h - nI L) (nI L) (nI L) G).bind _ = _
    rw [nSn _ _ h1, nSn _ _ h3, z]; rfl
theorem c_corT {j L a : Nat} {G : zD} (hj : j < 4) (h4 : gI G 22 4 = nI W) (h5 : gI G 22 5 = nI h) (hW : W ≤ 6) (hh : h ≤ 5) (hL : L ≤ 6) (h1 : L ≤ W) (h3 : L ≤ h) :
    (if (nI j &&& (1 : Int32)) = 0 then ((fn_X7_corner_62 a (nI j) (nI L) (0 : Int32) G)) else ((fn_X7_corner_62 a (nI j) (nI L) ((gI G 22 4) - nI L) G))) = (fn_X3_beOne a (blk W (cox j W L) (coy j h L) L L) G).bind fun D => some ((1 : Int32), D) := by
  unfold fn_X7_corner_62 fn_X7_corner_77 cox coy
  rw [h4, h5]
  rcases (show j = 0 ∨ j = 1 ∨ j = 2 ∨ j = 3 by omega) with rfl | rfl | rfl | rfl
  · have z := c_blkX (D := G) (x := 0) (y := 0) (w := L) (h := L) h4 hW (by omega) (by omega) (by omega) (by omega)
    show (fn_X7_block (nI 0) (nI 0) (nI L) (nI L) G).bind _ = _
    rw [z]; rfl
  · have z := c_blkX (D := G) (x := W - L) (y := 0) (w := L) (h := L) h4 hW (by omega) (by omega) (by omega) (by omega)
    show (fn_X7_block (nI W - nI L) (nI 0) (nI L) (nI L) G).bind _ = _
    rw [nSn _ _ h1, z]; rfl
  · have z := c_blkX (D := G) (x := 0) (y := h - L) (w := L) (h := L) h4 hW (by omega) (by omega) (by omega) (by omega)
    show (fn_X7_block (nI 0) (nI h - nI L) (nI L) (nI L) G).bind _ = _
    rw [nSn _ _ h3, z]; rfl
  · have z := c_blkX (D := G) (x := W - L) (y := h - L) (w := L) (h := L) h4 hW (by omega) (by omega) (by omega) (by omega)
    show (fn_X7_block (nI W - nI L) (nI h - nI L) (nI L) (nI L) G).bind _ = _
    rw [nSn _ _ h1, nSn _ _ h3, z]; rfl
theorem pl_corner (hP : cP n B p W h k D) : zok (fn_X7_corner (27 + 2 * k) D) (plq n B p W h k rCor D) := by
  obtain ⟨hc, hb, hk, h4, h5, hf⟩ := hP
  have hP : cP n B p W h k D := ⟨hc, hb, hk, h4, h5, hf⟩
  unfold fn_X7_corner
  refine (show zok (fn_X8_number 0 (nI 4 - 1) D) _ from c_numberOf hc (lo := 0) (H := 4) (by omega) (by omega)).bind fun q ⟨a1, o1⟩ => ?_
  have ref1 : ∀ (Q : zD → zD → Prop), (∀ E G j, j < 4 → rP n B p W h (zst (gI D 22 6)) E → agL pRd E G → (((∃ f, nm n B 0 4 p = .inl f ∧ rdF f G) ∧ j = 0) ∨ ∃ e, nm n B 0 4 p = .inr (j, e) ∧ rdS n B e G) → zok (fn_X12_plain_167 (nI j) (nI 1) (nI (min W h + 1) - 1) G) (Q E)) → ∀ E, rP n B p W h (zst (gI D 22 6)) E → zok (rCor E) (Q E) := by
    intro Q k2 E hE
    unfold rCor
    refine (show zok (fn_X12_number 0 (nI 4 - 1) E) _ from r_number2 hE.1 (lo := 0) (H := 4) (by omega) (by omega)).bind fun r ⟨b1, o2⟩ => ?_
    have h14 : gI r.2 102 14 = nI W := by rw [b1.1 _ _ (by unfold pRd; omega), hE.2.1]
    have h15 : gI r.2 102 15 = nI h := by rw [b1.1 _ _ (by unfold pRd; omega), hE.2.2.1]
    rcases o2 with ⟨f, y1, y2, y3⟩ | ⟨j, e, y1, y2, y3, y4, y5⟩
    · rw [y2, show (0 : Int32) = nI 0 from rfl, r_cor167 (j := 0) h14 h15 (by omega) (by omega)]
      exact k2 E r.2 0 (by omega) hE b1 (Or.inl ⟨⟨f, y1, y3⟩, rfl⟩)
    · rw [y4, r_cor167 (j := j) h14 h15 (by omega) (by omega)]
      exact k2 E r.2 j y3 hE b1 (Or.inr ⟨e, y1, y5⟩)
  rcases o1 with ⟨f, z1, z2, z3⟩ | ⟨j, e, z1, z2, z3, z4⟩
  · rw [z2, if_pos rfl, zok_some]
    refine plq_bad a1 rfl z3 (ref1 (fun E F => agL pPl E F ∧ rdF f F) fun E G j hj hE b1 o2 => ?_)
    rcases o2 with ⟨⟨f', y1, y2⟩, rfl⟩ | ⟨e, y1, y2⟩
    · rw [z1] at y1
      cases y1
      unfold fn_X12_plain_167
      have h14 : gI G 102 14 = nI W := by rw [b1.1 _ _ (by unfold pRd; omega), hE.2.1]
      have h15 : gI G 102 15 = nI h := by rw [b1.1 _ _ (by unfold pRd; omega), hE.2.2.1]
      rw [r_numberF y2, Option.bind_some]
      have z := r_corT (j := 0) (L := 0) (W := W) (h := h) (by omega) h14 h15 (by omega) (by omega) (by omega) (by omega) (by omega)
      refine (show zok (zdv (2 : Int32) <| (if (nI 0 - nI 0 / (2 : Int32) * (2 : Int32)) = (1 : Int32) then ((fn_X12_plain_190 (nI 0) (nI 0) ((gI G 102 14) - nI 0) G)) else ((fn_X12_plain_190 (nI 0) (nI 0) (0 : Int32) G)))) _ from ?_)
      rw [z]
      exact r_mkF b1 y2 hE.2.2.2 _
    · rw [z1] at y1; cases y1
  · have c4 : gI q.2 22 4 = nI W := by rw [a1 _ _ (by unfold pCs; omega), h4]
    have c5 : gI q.2 22 5 = nI h := by rw [a1 _ _ (by unfold pCs; omega), h5]
    obtain ⟨M, hMe⟩ : ∃ M, M = min W h := ⟨_, rfl⟩
    rw [z3, if_neg (fun t => (nM1 _ (by omega)).mp t), c4, c5, zmn_n _ _ (by omega) (by omega), ← hMe, hM M]
    have hM6 : M ≤ W ∧ M ≤ h := by omega
    refine (show zok (fn_X8_number (nI 1) (nI (M + 1) - 1) q.2) _ from c_numberOf z4 (lo := 1) (H := M + 1) (by omega) (by omega)).bind fun q2 ⟨a2, o2⟩ => ?_
    have a12 := a1.trans a2
    have pe := nm_ge hc.2.1 z1
    have ref2 : ∀ (Q : zD → zD → Prop), (∀ E G L, L ≤ M → rP n B p W h (zst (gI D 22 6)) E → agL pRd E G → (((∃ f, nm n B 1 (M + 1) e = .inl f ∧ rdF f G) ∧ L = 0) ∨ ∃ e', nm n B 1 (M + 1) e = .inr (L, e') ∧ rdS n B e' G) → zok ((fn_X12_makes (rbl W (cox j W L) (coy j h L) L L) G).bind fun D => some D) (Q E)) → ∀ E, rP n B p W h (zst (gI D 22 6)) E → zok (rCor E) (Q E) := by
      intro Q k2
      refine ref1 Q fun E G j' hj' hE b1 o3 => ?_
      rcases o3 with ⟨⟨f', y1, y2⟩, _⟩ | ⟨e', y1, y2⟩
      · rw [z1] at y1; cases y1
      · rw [z1] at y1
        cases y1
        rw [← hMe]
        unfold fn_X12_plain_167
        refine (r_number2 y2 (lo := 1) (H := M + 1) (by omega) (by omega)).bind fun r ⟨b2, o4⟩ => ?_
        have b12 := b1.trans b2
        have h14 : gI r.2 102 14 = nI W := by rw [b12.1 _ _ (by unfold pRd; omega), hE.2.1]
        have h15 : gI r.2 102 15 = nI h := by rw [b12.1 _ _ (by unfold pRd; omega), hE.2.2.1]
        rcases o4 with ⟨f, w1, w2, w3⟩ | ⟨L, e', w1, w2, w3, w4, w5⟩
        · rw [w2]
          have z := r_corT (j := j) (L := 0) (W := W) (h := h) z2 h14 h15 (by omega) (by omega) (by omega) (by omega) (by omega)
          refine (show zok (zdv (2 : Int32) <| (if (nI j - nI j / (2 : Int32) * (2 : Int32)) = (1 : Int32) then ((fn_X12_plain_190 (nI j) (nI 0) ((gI r.2 102 14) - nI 0) r.2)) else ((fn_X12_plain_190 (nI j) (nI 0) (0 : Int32) r.2)))) _ from ?_)
          rw [z]
          exact k2 E r.2 0 (by omega) hE b12 (Or.inl ⟨⟨f, w1, w3⟩, rfl⟩)
        · rw [w4, r_corT (j := j) (L := L) (W := W) (h := h) z2 h14 h15 (by omega) (by omega) (by omega) (by omega) (by omega)]
          exact k2 E r.2 L (by omega) hE b12 (Or.inr ⟨e', w1, w5⟩)
    rcases o2 with ⟨f, y1, y2, y3⟩ | ⟨L, e', y1, y2, y3, y4⟩
    · rw [y2, if_pos rfl, zok_some]
      refine plq_bad a12 rfl y3 (ref2 (fun E F => agL pPl E F ∧ rdF f F) fun E G L _ hE b1 o3 => ?_)
      rcases o3 with ⟨⟨f', w1, w2⟩, _⟩ | ⟨e', w1, w2⟩
      · rw [y1] at w1
        cases w1
        exact r_mkF b1 w2 hE.2.2.2 _
      · rw [y1] at w1; cases w1
    · have lL := (nm_lo y1).1
      have pe2 := nm_ge z4.2.1 y1
      rw [y3, if_neg (fun t => (nM1 _ (by omega)).mp t), c_corT (j := j) (L := L) (W := W) (h := h) z2 (by rw [a12 _ _ (by unfold pCs; omega), h4]) (by rw [a12 _ _ (by unfold pCs; omega), h5]) (by omega) (by omega) (by omega) (by omega) (by omega)]
      have x1 : cox j W L + L ≤ W := by
        unfold cox
        split <;> omega
      have x2 : coy j h L + L ≤ h := by
        unfold coy
        split <;> omega
      refine plq_one hP (by omega) y4 a12 (blk_un (by omega) (by omega) x1 x2) (ref2 (fun E F => agL pPl E F ∧ rdS n B e' F ∧ rM (stp (zst (gI D 22 6)) (blk W (cox j W L) (coy j h L) L L)) F) fun E G L' _ hE b1 o3 => ?_)
      rcases o3 with ⟨⟨f', w1, w2⟩, _⟩ | ⟨e'', w1, w2⟩
      · rw [y1] at w1; cases w1
      · rw [y1] at w1
        cases w1
        rw [rbl_eq (by omega) (by omega) x1 x2]
        exact r_mk b1 w2 hE.2.2.2 _
/-! fog -/
def sFog (W par m : Nat) : Int32 := zfo (fun i acc => if (i % W + i / W) % 2 = par then acc ||| bit1 i else acc) m 0 0
def rFog (D12 : zD) : Option zD := (fn_X12_number (0 : Int32) (1 : Int32) D12).bind fun q13 => (fn_X12_plain_384 zFU q13.1 (0 : Int32) (0 : Int32) q13.2)
theorem sFog_next {W par : Nat} (m : Nat) : sFog W par (m + 1) = if (m % W + m / W) % 2 = par then sFog W par m ||| bit1 m else sFog W par m := by
  unfold sFog
  rw [zfo_last, Nat.zero_add]
theorem sFog_un {W par c : Nat} (hc : c ≤ 30) : ∀ m, m ≤ c → un (sFog W par m) < 2 ^ c
  | 0, _ => by show un 0 < _; exact Nat.two_pow_pos _
  | m + 1, hm => by
    rw [sFog_next]
    split
    · exact un_or (by omega) (sFog_un hc m (by omega)) (bit1_un (by omega) hc)
    · exact sFog_un hc m (by omega)
theorem and1 : ∀ a, a < 64 → nI a &&& 1 = nI (a % 2) := by decide +kernel
theorem r_fog {par : Nat} (hp : par < 2) (h14 : gI D 102 14 = nI W) (h15 : gI D 102 15 = nI h) (hW : 2 ≤ W ∧ W ≤ 6) (hh : h ≤ 5) (Q : zD → Prop) (hQ : zok ((fn_X12_makes (sFog W par (W * h)) D).bind fun D => some D) Q) : zok (fn_X12_plain_384 zFU (nI par) 0 0 D) Q := by
  have h30 := wh_le hW.2 hh
  refine z_inv (W * h) (fun m i (acc : Int32) => fn_X12_plain_384 m (nI par) acc (nI i) D) (fun i acc => acc = sFog W par i) _ ?_ ?_ 0 zFU (0 : Int32) (Nat.zero_le _) (zfu_gt (by omega)) rfl
  · intro m i acc hi hacc ih
    show zok (fn_X12_plain_384 (m + 1) (nI par) acc (nI i) D) _
    rw [fn_X12_plain_384]
    unfold fn_X12_cells
    have m1 := Nat.mod_lt i (show 0 < W by omega)
    have m2 : i / W ≤ i := Nat.div_le_self _ _
    rw [h14, h15, pk_mul, Option.bind_some, if_neg (nI_ge hi (by omega)), zdv_nI (by omega) (by omega), zdv_nI (by omega) (by omega), show (2 : Int32) = nI 2 from rfl, zdv_nI (by omega) (by omega), nRn _ _ (by omega) (by omega) (by omega), nDn _ _ (by omega) (by omega) (by omega), nI_add, nRn _ _ (by omega) (by omega) (by omega), bit1_u, nI_1, zlet_eq, zlet_eq]
    have ej := nEq ((i % W + i / W) % 2) par (by omega) (by omega)
    by_cases q : (i % W + i / W) % 2 = par
    · rw [if_pos (ej.mpr q)]
      exact ih _ (by rw [sFog_next, if_pos q, hacc])
    · rw [if_neg (fun r => q (ej.mp r)), Int32.or_zero]
      exact ih _ (by rw [sFog_next, if_neg q, hacc])
  · intro m acc hacc
    show zok (fn_X12_plain_384 (m + 1) (nI par) acc (nI (W * h)) D) _
    rw [fn_X12_plain_384]
    unfold fn_X12_cells
    rw [h14, h15, pk_mul, Option.bind_some, if_pos (nI_le (Nat.le_refl _) (by omega)), hacc]
    exact hQ
theorem c_fog {par a : Nat} (h4 : gI D 22 4 = nI W) (h5 : gI D 22 5 = nI h) (hW : 2 ≤ W ∧ W ≤ 6) (hh : h ≤ 5) (hp : par < 2) (Q : Int32 × zD → Prop) (hQ : zok ((fn_X3_beOne a (sFog W par (W * h)) D).bind fun E => some ((1 : Int32), E)) Q) : zok (fn_X7_fog_22 a zFU (nI par) 0 0 D) Q := by
  have h30 := wh_le hW.2 hh
  refine z_inv h (fun m r (acc : Int32) => fn_X7_fog_22 a m (nI par) acc (nI r) D) (fun r acc => acc = sFog W par (W * r)) _ ?_ ?_ 0 zFU (0 : Int32) (Nat.zero_le _) (zfu_gt (by omega)) (by rw [Nat.mul_zero]; rfl)
  · intro m r acc hr hacc ih
    show zok (fn_X7_fog_22 a (m + 1) (nI par) acc (nI r) D) _
    rw [fn_X7_fog_22, h5, if_neg (nI_ge hr (by omega))]
    refine z_inv W (fun m' c (acc : Int32) => fn_X7_fog_34 a (fn_X7_fog_22 a m) m' (nI par) acc (nI r) (nI c) D) (fun c acc => acc = sFog W par (W * r + c)) _ ?_ ?_ 0 zFU acc (Nat.zero_le _) (zfu_gt (by omega)) hacc
    · intro m' c acc hc hacc ih2
      show zok (fn_X7_fog_34 a (fn_X7_fog_22 a m) (m' + 1) (nI par) acc (nI r) (nI c) D) _
      have hlt := wm_lt (b := 0) (W := W) (H := h) hW.2 hh hr hc
      have hd := (wm_div (W := W) (r := r) (c := c) hc).mp rfl
      have ej := nEq ((c + r) % 2) par (by omega) (by omega)
      have nx := sFog_next (W := W) (par := par) (W * r + c)
      rw [hd.1, hd.2] at nx
      rw [fn_X7_fog_34, h4, if_neg (nI_ge hc (by omega)), nI_add, and1 _ (by omega), pk_mul, nI_add, bit1_u, nI_1, zlet_eq]
      by_cases q : (c + r) % 2 = par
      · rw [if_pos (ej.mpr q)]
        exact ih2 _ (by rw [hacc, ← Nat.add_assoc, nx, if_pos q])
      · rw [if_neg (fun t => q (ej.mp t))]
        exact ih2 _ (by rw [hacc, ← Nat.add_assoc, nx, if_neg q])
    · intro m' acc hacc
      show zok (fn_X7_fog_34 a (fn_X7_fog_22 a m) (m' + 1) (nI par) acc (nI r) (nI W) D) _
      rw [fn_X7_fog_34, h4, if_pos (nI_le (Nat.le_refl _) (by omega)), nI_1]
      exact ih _ (by rw [hacc, Nat.mul_add, Nat.mul_one])
  · intro m acc hacc
    show zok (fn_X7_fog_22 a (m + 1) (nI par) acc (nI h) D) _
    rw [fn_X7_fog_22, h5, if_pos (nI_le (Nat.le_refl _) (by omega)), hacc]
    exact hQ
end M9z
