/-! THE MATHEMATICS: fog, front and any, both -/
def sB {α β : Type} (s : (Nat × Nat) ⊕ α) (f : α → (Nat × Nat) ⊕ β) : (Nat × Nat) ⊕ β := match s with
  | .inl a => .inl a
  | .inr b => f b
def frN (n : Nat) (B : Nat → Int32) (W h p : Nat) : (Nat × Nat) ⊕ (Nat × Nat × Nat × Nat × Nat) :=
  sB (nm n B 0 W p) fun a => sB (nm n B 0 h a.2) fun b => sB (nm n B 1 (W - a.1 + 1) b.2) fun c => sB (nm n B 1 (h - b.1 + 1) c.2) fun d => .inr (a.1, b.1, c.1, d.1, d.2)
section M9za
variable {D : zD} {n p e W h k : Nat} {B : Nat → Int32} {R : zD → Option zD}
theorem sB_l {α β : Type} (a : Nat × Nat) (f : α → (Nat × Nat) ⊕ β) : sB (.inl a) f = .inl a := rfl
theorem sB_r {α β : Type} (b : α) (f : α → (Nat × Nat) ⊕ β) : sB (.inr b) f = f b := rfl
theorem pl_fog (hP : cP n B p W h k D) : zok (fn_X7_fog (27 + 2 * k) D) (plq n B p W h k rFog D) := by
  obtain ⟨hc, hb, hk, h4, h5, hf⟩ := hP
  have hP : cP n B p W h k D := ⟨hc, hb, hk, h4, h5, hf⟩
  have h30 := wh_le (w := W) (h := h) (by omega) (by omega)
  unfold fn_X7_fog
  refine (show zok (fn_X8_number 0 (nI 2 - 1) D) _ from c_numberOf hc (lo := 0) (H := 2) (by omega) (by omega)).bind fun q ⟨a1, o1⟩ => ?_
  rcases o1 with ⟨f, z1, z2, z3⟩ | ⟨j, e, z1, z2, z3, z4⟩
  · rw [z2, if_pos rfl, zok_some]
    refine plq_bad a1 rfl z3 fun E hE => ?_
    unfold rFog
    refine (show zok (fn_X12_number 0 (nI 2 - 1) E) _ from r_number2 hE.1 (lo := 0) (H := 2) (by omega) (by omega)).bind fun r ⟨b1, o2⟩ => ?_
    rcases o2 with ⟨f', y1, y2, y3⟩ | ⟨_, _, y1, _⟩
    · rw [z1] at y1
      cases y1
      rw [y2]
      refine r_fog (par := 0) (W := W) (h := h) (by omega) (by rw [b1.1 _ _ (by unfold pRd; omega), hE.2.1]) (by rw [b1.1 _ _ (by unfold pRd; omega), hE.2.2.1]) (by omega) (by omega) _ ?_
      exact r_mkF b1 y3 hE.2.2.2 _
    · rw [z1] at y1; cases y1
  · have pe := nm_ge hc.2.1 z1
    rw [z3, if_neg (fun t => (nM1 _ (by omega)).mp t)]
    refine c_fog (W := W) (h := h) (by rw [a1 _ _ (by unfold pCs; omega), h4]) (by rw [a1 _ _ (by unfold pCs; omega), h5]) (by omega) (by omega) z2 _ ?_
    refine plq_one hP pe z4 a1 (sFog_un h30 _ (Nat.le_refl _)) fun E hE => ?_
    unfold rFog
    refine (show zok (fn_X12_number 0 (nI 2 - 1) E) _ from r_number2 hE.1 (lo := 0) (H := 2) (by omega) (by omega)).bind fun r ⟨b1, o2⟩ => ?_
    rcases o2 with ⟨f', y1, y2, y3⟩ | ⟨j', e', y1, y2, y3, y4, y5⟩
    · rw [z1] at y1; cases y1
    · rw [z1] at y1
      cases y1
      rw [y4]
      refine r_fog (par := j) (W := W) (h := h) z2 (by rw [b1.1 _ _ (by unfold pRd; omega), hE.2.1]) (by rw [b1.1 _ _ (by unfold pRd; omega), hE.2.2.1]) (by omega) (by omega) _ ?_
      exact r_mk b1 y5 hE.2.2.2 _
def rFro (D20 : zD) : Option zD := (fn_X12_number (0 : Int32) ((gI D20 102 14) - (1 : Int32)) D20).bind fun q21 => (fn_X12_number (0 : Int32) ((gI q21.2 102 15) - (1 : Int32)) q21.2).bind fun q22 => (fn_X12_number (1 : Int32) ((gI q22.2 102 14) - q21.1) q22.2).bind fun q23 => (fn_X12_number (1 : Int32) ((gI q23.2 102 15) - q22.1) q23.2).bind fun q24 => (if (gI q24.2 102 5) = 0 then ((fn_X12_block q21.1 q22.1 q23.1 q24.1 q24.2).bind fun x26 => (fn_X12_makes x26 q24.2).bind fun D27 => (some D27)) else ((some q24.2)))
theorem r_front {z : Option (List Int32)} (hE : rP n B p W h z D) (hb : 2 ≤ W ∧ W ≤ 6 ∧ 2 ≤ h ∧ h ≤ 5) : zok (rFro D) fun F => agL pPl D F ∧ ((∃ f, frN n B W h p = .inl f ∧ rdF f F) ∨ ∃ x y w l e, frN n B W h p = .inr (x, y, w, l, e) ∧ rdS n B e F ∧ rM (stp z (rbl W x y w l)) F) := by
  obtain ⟨hd, h14, h15, hM'⟩ := hE
  unfold rFro
  rw [h14]
  refine (r_number2 hd (lo := 0) (H := W) (by omega) (by omega)).bind fun q1 ⟨a1, o1⟩ => ?_
  rw [a1.1 102 15 (by unfold pRd; omega), h15]
  rcases o1 with ⟨f, z1, z2, z3⟩ | ⟨x, e1, z1, z2, z3, z4, z5⟩
  · rw [r_numberF z3, Option.bind_some, r_numberF z3, Option.bind_some, r_numberF z3, Option.bind_some, if_neg (rdF_ne z3), zok_some]
    exact ⟨pRd_l a1, Or.inl ⟨f, by simp only [frN, z1, sB_l], z3⟩⟩
  refine (r_number2 z5 (lo := 0) (H := h) (by omega) (by omega)).bind fun q2 ⟨a2, o2⟩ => ?_
  have a12 := a1.trans a2
  rw [a12.1 102 14 (by unfold pRd; omega), h14]
  rcases o2 with ⟨f, y1, y2, y3⟩ | ⟨y, e2, y1, y2, y3, y4, y5⟩
  · rw [r_numberF y3, Option.bind_some, r_numberF y3, Option.bind_some, if_neg (rdF_ne y3), zok_some]
    exact ⟨pRd_l a12, Or.inl ⟨f, by simp only [frN, z1, sB_l, sB_r, y1], y3⟩⟩
  rw [z4, nSn _ _ (by omega), hM (W - x)]
  refine (show zok (fn_X12_number (nI 1) (nI (W - x + 1) - 1) q2.2) _ from r_number2 y5 (lo := 1) (H := W - x + 1) (by omega) (by omega)).bind fun q3 ⟨a3, o3⟩ => ?_
  have a13 := a12.trans a3
  rw [a13.1 102 15 (by unfold pRd; omega), h15]
  rcases o3 with ⟨f, x1, x2, x3⟩ | ⟨w, e3, x1, x2, x3, x4, x5⟩
  · rw [r_numberF x3, Option.bind_some, if_neg (rdF_ne x3), zok_some]
    exact ⟨pRd_l a13, Or.inl ⟨f, by simp only [frN, z1, sB_l, sB_r, y1, x1], x3⟩⟩
  rw [y4, nSn _ _ (by omega), hM (h - y)]
  refine (show zok (fn_X12_number (nI 1) (nI (h - y + 1) - 1) q3.2) _ from r_number2 x5 (lo := 1) (H := h - y + 1) (by omega) (by omega)).bind fun q4 ⟨a4, o4⟩ => ?_
  have a14 := a13.trans a4
  rcases o4 with ⟨f, w1, w2, w3⟩ | ⟨l, e4, w1, w2, w3, w4, w5⟩
  · rw [if_neg (rdF_ne w3), zok_some]
    exact ⟨pRd_l a14, Or.inl ⟨f, by simp only [frN, z1, sB_l, sB_r, y1, x1, w1], w3⟩⟩
  rw [w5.2.2.2.1, if_pos rfl, x4, w4, r_blkX (W := W) (by rw [a14.1 _ _ (by unfold pRd; omega), h14]) (by omega) (by omega) (by omega) (by omega), Option.bind_some]
  exact (r_mk a14 w5 hM' _).mono fun F ⟨f1, f2, f3⟩ => ⟨f1, Or.inr ⟨x, y, w, l, e4, by simp only [frN, z1, sB_r, y1, x1, w1], f2, f3⟩⟩
theorem c_front {a : Nat} {Q : Int32 × zD → Prop} (hc : cS n B p D) (h4 : gI D 22 4 = nI W) (h5 : gI D 22 5 = nI h) (hb : 2 ≤ W ∧ W ≤ 6 ∧ 2 ≤ h ∧ h ≤ 5) (hF : ∀ f q, frN n B W h p = .inl f → q.1 = 0 → cF f q.2 → ag pCs D q.2 → Q q)
    (hS : ∀ x y w l e E, frN n B W h p = .inr (x, y, w, l, e) → x + w ≤ W → y + l ≤ h → p ≤ e → cS n B e E → ag pCs D E → zok ((fn_X3_beOne a (blk W x y w l) E).bind fun E => some ((1 : Int32), E)) Q) : zok (fn_X7_front a D) Q := by
  unfold fn_X7_front
  rw [h4]
  refine (c_numberOf hc (lo := 0) (H := W) (by omega) (by omega)).bind fun q1 ⟨a1, o1⟩ => ?_
  rcases o1 with ⟨f, z1, z2, z3⟩ | ⟨x, e1, z1, z2, z4, z5⟩
  · rw [z2, if_pos rfl, zok_some]
    exact hF f _ (by simp only [frN, z1, sB_l]) rfl z3 a1
  have p1 := nm_ge hc.2.1 z1
  rw [z4, if_neg (fun t => (nM1 _ (by omega)).mp t), a1 22 5 (by unfold pCs; omega), h5]
  refine (c_numberOf z5 (lo := 0) (H := h) (by omega) (by omega)).bind fun q2 ⟨a2, o2⟩ => ?_
  have a12 := a1.trans a2
  rcases o2 with ⟨f, y1, y2, y3⟩ | ⟨y, e2, y1, y2, y4, y5⟩
  · rw [y2, if_pos rfl, zok_some]
    exact hF f _ (by simp only [frN, z1, sB_l, sB_r, y1]) rfl y3 a12
  have p2 := nm_ge z5.2.1 y1
  rw [y4, if_neg (fun t => (nM1 _ (by omega)).mp t), a12 22 4 (by unfold pCs; omega), h4, nSn _ _ (by omega), hM (W - x)]
  refine (show zok (fn_X8_number (nI 1) (nI (W - x + 1) - 1) q2.2) _ from c_numberOf y5 (lo := 1) (H := W - x + 1) (by omega) (by omega)).bind fun q3 ⟨a3, o3⟩ => ?_
  have a13 := a12.trans a3
  rcases o3 with ⟨f, x1, x2, x3⟩ | ⟨w, e3, x1, x2, x4, x5⟩
  · rw [x2, if_pos rfl, zok_some]
    exact hF f _ (by simp only [frN, z1, sB_l, sB_r, y1, x1]) rfl x3 a13
  have p3 := nm_ge y5.2.1 x1
  rw [x4, if_neg (fun t => (nM1 _ (by omega)).mp t), a13 22 5 (by unfold pCs; omega), h5, nSn _ _ (by omega), hM (h - y)]
  refine (show zok (fn_X8_number (nI 1) (nI (h - y + 1) - 1) q3.2) _ from c_numberOf x5 (lo := 1) (H := h - y + 1) (by omega) (by omega)).bind fun q4 ⟨a4, o4⟩ => ?_
  have a14 := a13.trans a4
  rcases o4 with ⟨f, w1, w2, w3⟩ | ⟨l, e4, w1, w2, w4, w5⟩
  · rw [w2, if_pos rfl, zok_some]
    exact hF f _ (by simp only [frN, z1, sB_l, sB_r, y1, x1, w1]) rfl w3 a14
  have p4 := nm_ge x5.2.1 w1
  rw [w4, if_neg (fun t => (nM1 _ (by omega)).mp t), c_blkX (W := W) (by rw [a14 _ _ (by unfold pCs; omega), h4]) (by omega) (by omega) (by omega) (by omega) (by omega), Option.bind_some]
  exact hS x y w l e4 q4.2 (by simp only [frN, z1, sB_r, y1, x1, w1]) (by omega) (by omega) (by omega) w5 a14
theorem pl_front (hP : cP n B p W h k D) : zok (fn_X7_front (27 + 2 * k) D) (plq n B p W h k rFro D) := by
  obtain ⟨hc, hb, hk, h4, h5, hf⟩ := hP
  have hP : cP n B p W h k D := ⟨hc, hb, hk, h4, h5, hf⟩
  refine c_front hc h4 h5 hb (fun f q z q1 q2 q3 => plq_bad q3 q1 q2 fun E hE => (r_front hE hb).mono fun F ⟨f1, o⟩ => ?_) fun x y w l e E z x1 x2 pe hE g => plq_one hP pe hE g (blk_un (by omega) (by omega) x1 x2) fun E' hE' => (r_front hE' hb).mono fun F ⟨f1, o⟩ => ?_
  · rcases o with ⟨f', y1, y2⟩ | ⟨_, _, _, _, _, y1, _⟩
    · rw [z] at y1
      cases y1
      exact ⟨f1, y2⟩
    · rw [z] at y1; cases y1
  · rcases o with ⟨f', y1, y2⟩ | ⟨_, _, _, _, _, y1, y2, y3⟩
    · rw [z] at y1; cases y1
    · rw [z] at y1
      cases y1
      rw [rbl_eq (by omega) (by omega) x1 x2] at y3
      exact ⟨f1, y2, y3⟩
/-! any -/
def rAnB (D28 : zD) : Option zD := (fn_X12_number (0 : Int32) (3 : Int32) D28).bind fun q29 => (if (gI q29.2 102 5) = 0 then ((fn_X12_anyOfT (0 : Int32) q29.1 (0 : Int32) q29.2).bind fun D31 => (some D31)) else ((some q29.2)))
theorem okc_rAny {N : Nat} (hN : N ≤ 30) : ∀ (k first : Nat) (mask : Int32) (s : Option (List Int32)), un mask < 2 ^ N → okc N s → okc N (rAny N k first mask s)
  | 0, _, _, _, hm, hs => okc_stp hs hm
  | k + 1, first, mask, s, hm, hs => okc_zfo (fun v s' h1 h2 h3 => okc_rAny hN k (v + 1) _ s' (un_or (by omega) hm (bit1_un (by omega) hN)) h3) hs
def mnt (f : Option (List Int32) → Option (List Int32)) : Prop := ∀ s l, f s = some l → ∃ l0, s = some l0 ∧ l0.length ≤ l.length
theorem mnt_stp (x : Int32) : mnt (fun s => stp s x) := by
  intro s l hl
  cases s with
  | none => cases hl
  | some k =>
    refine ⟨k, rfl, ?_⟩
    replace hl : stp (some k) x = some l := hl
    by_cases q : x ∈ k
    · rw [stp_in q] at hl; cases hl; exact Nat.le_refl _
    · by_cases r : k.length < 500
      · rw [stp_new q r] at hl; cases hl; rw [len_app]; omega
      · rw [stp_full q r] at hl; cases hl
theorem mnt_zfo {f : Nat → Option (List Int32) → Option (List Int32)} (hf : ∀ i, mnt (f i)) : ∀ m i, mnt (fun s => zfo f m i s)
  | 0, _ => fun s l hl => ⟨l, hl, Nat.le_refl _⟩
  | m + 1, i => fun s l hl => by
    replace hl : zfo f (m + 1) i s = some l := hl
    rw [zfo_last] at hl
    obtain ⟨l1, e1, k1⟩ := hf _ _ _ hl
    obtain ⟨l0, e0, k0⟩ := mnt_zfo hf m i _ _ e1
    exact ⟨l0, e0, by omega⟩
theorem mnt_rAny {N : Nat} : ∀ (k first : Nat) (mask : Int32), mnt (rAny N k first mask)
  | 0, _, mask => mnt_stp mask
  | k + 1, first, mask => mnt_zfo (fun v => mnt_rAny k (v + 1) _) _ _
theorem rAny_pos {N : Nat} : ∀ (k first : Nat) (mask : Int32) (s : Option (List Int32)) (l : List Int32), k + first ≤ N → rAny N k first mask s = some l → 1 ≤ l.length
  | 0, _, _, _, _, _, h => stp_pos h
  | k + 1, first, mask, s, l, hN, h => by
    obtain ⟨m, hm⟩ : ∃ m, N - first = m + 1 := ⟨N - first - 1, by omega⟩
    rw [rAny, hm] at h
    replace h : zfo (fun v s => rAny N k (v + 1) (mask ||| bit1 v) s) m (first + 1) (rAny N k (first + 1) (mask ||| bit1 first) s) = some l := h
    obtain ⟨l0, e0, k0⟩ := mnt_zfo (fun v => mnt_rAny k (v + 1) _) m (first + 1) _ _ h
    have := rAny_pos k (first + 1) _ s l0 (by omega) e0
    omega
theorem pl_any (hP : cP n B p W h k D) : zok (fn_X7_any (27 + 2 * k) D) (plq n B p W h k rAnB D) := by
  obtain ⟨hc, hb, hk, h4, h5, hf⟩ := hP
  have h30 := wh_le (w := W) (h := h) (by omega) (by omega)
  have h4c := cpos (w := W) (h := h) (by omega) (by omega)
  unfold fn_X7_any
  refine (show zok (fn_X8_number 0 (nI 4 - 1) D) _ from c_numberOf hc (lo := 0) (H := 4) (by omega) (by omega)).bind fun q ⟨a1, o1⟩ => ?_
  rcases o1 with ⟨f, z1, z2, z3⟩ | ⟨j, e, z1, z2, z3, z4⟩
  · rw [z2, if_pos rfl, zok_some]
    refine plq_bad a1 rfl z3 fun E hE => ?_
    unfold rAnB
    refine (show zok (fn_X12_number 0 (nI 4 - 1) E) _ from r_number2 hE.1 (lo := 0) (H := 4) (by omega) (by omega)).bind fun r ⟨b1, o2⟩ => ?_
    rcases o2 with ⟨f', y1, y2, y3⟩ | ⟨_, _, y1, _⟩
    · rw [z1] at y1
      cases y1
      rw [if_neg (rdF_ne y3), zok_some]
      exact ⟨pRd_l b1, y3⟩
    · rw [z1] at y1; cases y1
  · have pe := nm_ge hc.2.1 z1
    have e22 : gI q.2 22 6 = gI D 22 6 := a1 _ _ (by unfold pCs; omega)
    rw [z3, if_neg (fun t => (nM1 _ (by omega)).mp t), zlet_eq, gI_na (by omega), gI_na (by omega), a1 22 4 (by unfold pCs; omega), a1 22 5 (by unfold pCs; omega), h4, h5, pk_mul, zlet_eq]
    have hV : cV (27 + 2 * k) (zst (gI D 22 6)) (sI q.2 (27 + 2 * k) 1 0) := by
      unfold zst
      rcases hf with hf | hf
      · rw [if_pos hf]
        exact ⟨by rw [gI_na (by omega), e22, hf], Nat.zero_le _, gI_eq, fun i hi => absurd hi (Nat.not_lt_zero _)⟩
      · rw [if_neg (by rw [hf]; decide)]
        exact ⟨by rw [gI_na (by omega), e22, hf], 0, Nat.zero_le _, gI_eq⟩
    refine (c_any35 (k := j) (N := W * h) (by omega) (by omega) (by omega) hV fun l hl => ?_).mono fun r ⟨r1, r2, r3⟩ => ?_
    · unfold zst at hl
      split at hl
      · cases hl; rfl
      · cases hl
    rw [gAny_r (by omega)] at r2
    have g3 : ag pCs q.2 (sI q.2 (27 + 2 * k) 1 0) ∨ True := Or.inr trivial
    refine ⟨(pCs_l a1).trans ((ag.refl.sI (by unfold pCl; omega)).trans (r3.mono (by unfold pAn pCl; intros; omega))), Or.inr ⟨r1, e, _, pe, z4.keep fun a b t => by rw [r3 _ _ (by unfold pAn; omega), gI_na (by omega)], r2, okc_rAny h30 _ _ _ _ (Nat.two_pow_pos _) ?_, fun l hl => rAny_pos _ _ _ _ _ (by omega) hl, fun h1 => by rw [h1]; exact rAny_none _ _ _, fun E hE => ?_⟩⟩
    · unfold zst
      split
      · exact okc_nil
      · intro l hl; cases hl
    · unfold rAnB
      refine (show zok (fn_X12_number 0 (nI 4 - 1) E) _ from r_number2 hE.1 (lo := 0) (H := 4) (by omega) (by omega)).bind fun r ⟨b1, o2⟩ => ?_
      rcases o2 with ⟨f', y1, y2, y3⟩ | ⟨j', e', y1, y2, y3, y4, y5⟩
      · rw [z1] at y1; cases y1
      · rw [z1] at y1
        cases y1
        unfold fn_X12_anyOfT
        rw [y5.2.2.2.1, if_pos rfl, y4, bsm]
        refine (show zok (fn_X12_anyOfR 100 (nI 0) (nI j) 0 r.2) _ from r_any (D := r.2) (W := W) (h := h) (by rw [b1.1 _ _ (by unfold pRd; omega), hE.2.1]) (by rw [b1.1 _ _ (by unfold pRd; omega), hE.2.2.1]) (by omega) (by omega) j 100 0 0 _ r.2 (by omega) (by omega) (Nat.zero_le _) (hE.2.2.2.keep b1) agL.refl).mono fun F ⟨f1, f2⟩ => ⟨(pRd_l b1).trans (pMk_l f2), y5.mk f2, f1⟩
end M9za
