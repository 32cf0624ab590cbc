/-! THE MATHEMATICS: strokes, the class: the fewest rows -/
section M84
variable {D : zD} {P : Nat → Nat} {nc c ns d W h : Nat} {bl : Nat → Bool} {H V ρ κ : Nat → Nat}
/-- a number that no row has -/
theorem c_findsNone {p : Int32} (hp : ∀ i, i < 30 → bt p i = bl i) {k : Nat} (hk : k < 30) (hno : ∀ i, i < 30 → bl i = true → ∃ r, r < k ∧ gI D 8 i = nI r) : fn_X0_findsPartnerT 3 p (nI k) 0 D = some (0, D) := by
  unfold fn_X0_findsPartnerT
  show fn_X0_findsPartner (fn_X0_findsPartnerR 99) 3 p (nI k) (nI 0) D = _
  unfold fn_X0_findsPartner
  rw [if_pos (show nI 0 ≤ (30 : Int32) by decide)]
  refine zok.eq (z_inv 30 (fun n i (_ : Unit) => fn_X0_findsPartner_11 (fn_X0_findsPartnerR 99) 3 p (nI k) (nI 0) n (nI i) D) (fun _ _ => True) _ ?_ ?_ 0 zFU () (Nat.zero_le _) (zfu_gt (by omega)) trivial)
  · intro n i _ hi _ ih
    show zok (fn_X0_findsPartner_11 (fn_X0_findsPartnerR 99) 3 p (nI k) (nI 0) (n + 1) (nI i) D) _
    have j0 := bt_0 p i (by omega)
    rw [hp i hi] at j0
    rw [fn_X0_findsPartner_11, if_neg (show ¬ (30 : Int32) ≤ nI i from nI_ge (b := 30) (by omega) (by omega)), nI_1, zck_nI hi (by omega), nI_clamp (by omega)]
    by_cases q1 : bl i = true
    · obtain ⟨r, r1, r2⟩ := hno i hi q1
      rw [if_neg (fun e => by rw [j0.mp e] at q1; cases q1), show gI D (3 + 5) i = nI r from r2, if_neg (fun e => by rw [nEq _ _ (by omega) (by omega)] at e; omega)]
      exact ih () trivial
    · rw [if_pos (j0.mpr (by cases q : bl i; rfl; exact absurd q q1))]
      exact ih () trivial
  · intro n _ _
    show zok (fn_X0_findsPartner_11 (fn_X0_findsPartnerR 99) 3 p (nI k) (nI 0) (n + 1) (nI 30) D) _
    rw [fn_X0_findsPartner_11, if_pos (show (30 : Int32) ≤ nI 30 by decide), zok_some]
def kD (bl : Nat → Bool) (H V ρ κ : Nat → Nat) (s : Nat → Option Nat) (D : zD) : Prop :=
  (∀ i, i < 30 → bl i = true → gI D 8 i = nI (ρ (H i)) ∧ gI D 9 i = nI (κ (V i))) ∧
  (∀ i, i < 30 → bl i = true → gI D 10 (κ (V i)) = pe ρ (s (V i))) ∧ kP bl H s
theorem c_rows17 {p : Int32} (hp : ∀ i, i < 30 → bt p i = bl i) {D0 : zD} : ∀ m i n (D : zD), i + m = 30 → 30 < n + fb_ct (sr bl (hr W bl)) i → kD bl (hr W bl) (vr W bl) (fb_ct (sr bl (hr W bl))) (fb_ct (sr bl (vr W bl))) (kO bl (hr W bl) (vr W bl) i).2 D → ag pSt D0 D → zok (fn_X0_fewestRows_17 3 p n (nI (kO bl (hr W bl) (vr W bl) i).1) (nI (fb_ct (sr bl (hr W bl)) i)) D) fun q => q.1 = nI (kO bl (hr W bl) (vr W bl) 30).1 ∧ ag pSt D0 q.2 := by
  intro m
  induction m with
  | zero =>
    intro i n D hi hn hk hg
    obtain rfl : i = 30 := by omega
    have h30 := fb_ct_le (sr bl (hr W bl)) 30
    refine z_inv 30 (fun n k (E : zD) => fn_X0_fewestRows_17 3 p n (nI (kO bl (hr W bl) (vr W bl) 30).1) (nI k) E) (fun k E => fb_ct (sr bl (hr W bl)) 30 ≤ k ∧ (∀ i, i < 30 → bl i = true → gI E 8 i = nI (fb_ct (sr bl (hr W bl)) (hr W bl i))) ∧ ag pSt D0 E) _ ?_ ?_ (fb_ct (sr bl (hr W bl)) 30) n D h30 (by omega) ⟨Nat.le_refl _, fun i hi hb => (hk.1 i hi hb).1, hg⟩
    · intro n k E hk30 ⟨g0, g1, g2⟩ ih
      show zok (fn_X0_fewestRows_17 3 p (n + 1) (nI (kO bl (hr W bl) (vr W bl) 30).1) (nI k) E) _
      rw [fn_X0_fewestRows_17, if_neg (show ¬ (30 : Int32) ≤ nI k from nI_ge (b := 30) (by omega) (by omega)), zlet_eq, c_findsNone hp hk30 (fun i hi hb => ⟨fb_ct (sr bl (hr W bl)) (hr W bl i), ?_, by rw [gI_na (by omega)]; exact g1 i hi hb⟩), Option.bind_some, if_pos rfl, nI_1]
      · exact ih _ ⟨by omega, fun i hi hb => by rw [gI_na (by omega)]; exact g1 i hi hb, g2.sI (by unfold pSt; omega)⟩
      · have h1 := sr_hr (W := W) hb
        have h2 := hr_le (W := W) (bl := bl) i
        have h3 := fb_ct_succ (sr bl (hr W bl)) (hr W bl i)
        rw [if_pos h1] at h3
        have h4 := fb_ct_mono (sr bl (hr W bl)) (show hr W bl i + 1 ≤ 30 by omega)
        omega
    · intro n E ⟨g0, g1, g2⟩
      show zok (fn_X0_fewestRows_17 3 p (n + 1) (nI (kO bl (hr W bl) (vr W bl) 30).1) (nI 30) E) _
      rw [fn_X0_fewestRows_17, if_pos (show (30 : Int32) ≤ nI 30 by decide), zok_some]
      exact ⟨rfl, g2⟩
  | succ m ih =>
    intro i n D hi hn hk hg
    have hcle := fb_ct_le (sr bl (hr W bl)) i
    by_cases q : sr bl (hr W bl) i = true
    · obtain ⟨n, rfl⟩ : ∃ k, n = k + 1 := ⟨n - 1, by omega⟩
      have q2 := q
      unfold sr at q2
      rw [Bool.and_eq_true, decide_eq_true_eq] at q2
      have e1 : fb_ct (sr bl (hr W bl)) (i + 1) = fb_ct (sr bl (hr W bl)) i + 1 := by rw [fb_ct_succ, if_pos q]
      rw [fn_X0_fewestRows_17, if_neg (show ¬ (30 : Int32) ≤ nI (fb_ct (sr bl (hr W bl)) i) from nI_ge (b := 30) (by omega) (by omega)), zlet_eq]
      have hk0 : kC bl (hr W bl) (vr W bl) (fb_ct (sr bl (hr W bl))) (fb_ct (sr bl (vr W bl))) (fun _ => false, (kO bl (hr W bl) (vr W bl) i).2) (sI D 3 11 0) := ⟨fun j hj hb => by rw [gI_na (by omega), gI_na (by omega)]; exact hk.1 j hj hb, fun j hj hb => ⟨by rw [gI_eq, b_0], by rw [gI_na (by omega)]; exact hk.2.1 j hj hb⟩, hk.2.2⟩
      refine (c_finds hp kN_of 31 100 0 i _ _ (by omega) (by omega) ⟨i, by omega, q2.1, q2.2⟩ hk0).bind fun x ⟨x1, x2, x3⟩ => ?_
      have e2 : kO bl (hr W bl) (vr W bl) (i + 1) = ((kO bl (hr W bl) (vr W bl) i).1 + (if (kf bl (hr W bl) (vr W bl) 31 i (fun _ => false, (kO bl (hr W bl) (vr W bl) i).2)).1 = true then 1 else 0), (kf bl (hr W bl) (vr W bl) 31 i (fun _ => false, (kO bl (hr W bl) (vr W bl) i).2)).2.2) := by rw [kO, if_pos q2]
      have step := ih (i + 1) n x.2 (by omega) (by omega) (by rw [e2]; exact ⟨x2.1, fun j hj hb => (x2.2.1 j hj hb).2, x2.2.2⟩) ((hg.sI (by unfold pSt; omega)).trans x3)
      rw [e2, e1] at step
      rw [x1, nI_1, nI_1]
      generalize kf bl (hr W bl) (vr W bl) 31 i (fun _ => false, (kO bl (hr W bl) (vr W bl) i).2) = r at *
      cases q5 : r.1
      · rw [q5] at step
        rw [if_pos (show bI false = 0 from rfl)]
        exact step
      · rw [q5] at step
        rw [if_neg (show ¬ bI true = 0 by decide)]
        exact step
    · have e1 : fb_ct (sr bl (hr W bl)) (i + 1) = fb_ct (sr bl (hr W bl)) i := by rw [fb_ct_succ, if_neg q, Nat.add_zero]
      have e2 : kO bl (hr W bl) (vr W bl) (i + 1) = kO bl (hr W bl) (vr W bl) i := by
        rw [kO, if_neg]
        intro r
        apply q
        unfold sr
        rw [r.1, decide_eq_true r.2]
        rfl
      have step := ih (i + 1) n D (by omega) (by omega) (by rw [e2]; exact hk) hg
      rw [e1, e2] at step
      exact step
theorem c_fewest {p : Int32} (hp : ∀ i, i < 30 → bt p i = bl i) (h0 : gI D 3 0 = nI W) (h1 : gI D 3 1 = nI h) (hW : 2 ≤ W ∧ W ≤ 6) (hh : h ≤ 5) (hbl : ∀ i, W * h ≤ i → bl i = false) : zok (fn_X0_fewestRows 3 p D) fun q => q.1 = nI (kO bl (hr W bl) (vr W bl) 30).1 ∧ ag pSt D q.2 := by
  unfold fn_X0_fewestRows
  refine (c_number hp h0 h1 hW hh).bind fun E ⟨e1, e2⟩ => ?_
  rw [fill_eq (by decide), Option.bind_some]
  have hg : ag pSt D (zfill E (3 + 7) 30 (-1)) := e2.zfill (by unfold pSt; omega)
  refine c_rows17 hp 30 0 zFU _ rfl (by unfold zFU; omega) ⟨fun i hi hb => ?_, fun i hi hb => ?_, fun j q hq => by cases hq⟩ hg
  · rw [gIz (by omega), gIz (by omega)]
    refine e1 i ?_ hb
    rcases Nat.lt_or_ge i (W * h) with g | g
    · exact g
    · rw [hbl i g] at hb; cases hb
  · rw [show (3 + 7) = 10 from rfl, gIz_eq ((kN_of.1 i hi hb).2.2.2)]
    rfl
end M84
