/-! THE LAW FROM ITS ENTRY -/
theorem zGrL {M : zM} {i : Nat} {o : zOut} {f : Nat → Nat → Option Nat} {x : Nat} {D : zD} (h : zC0 M i) : zGr M (some (o, ((zK0, f, x), D))) := fun o' M' e => by
  cases e
  have h1 := zc_M278
  have h2 := h.le h1 (by have := h.2.2; rw [zKlen] at this; exact this)
  have h3 : Mc_278.1.1 = zK0 := h1.1.trans zKtk
  have e1 : zcc Mc_278 = zK0.length := by simp only [zcc, h3, h1.2.1, Nat.add_zero]
  have e2 : zsc Mc_278 = (zK0.map (fun q => q.2)).sum := by simp only [zsc, h3, h1.2.1, Nat.mul_zero, Nat.add_zero]
  rw [e1, e2] at h2
  show zcc M ≤ zK0.length + x ∧ zsc M ≤ (zK0.map (fun q => q.2)).sum + 6 * x
  omega
theorem zMex : zEx Mc_278 = ((zK0, Mc_278.1.2.1, 1), Mc_278.2) := by
  have h := zShC_eq
  show ((Mc_278.1.1, Mc_278.1.2.1, Mc_278.1.2.2 + 1), Mc_278.2) = _
  rw [zc_M278.1.trans zKtk, zc_M278.2.1]
theorem zcc_S {l : List (Nat × Nat)} {f : Nat → Nat → Option Nat} {x : Nat} {D : zD} : zcc ((l, f, x), D) = l.length + x := rfl
theorem zsc_S {l : List (Nat × Nat)} {f : Nat → Nat → Option Nat} {x : Nat} {D : zD} : zsc ((l, f, x), D) = (l.map (fun q => q.2)).sum + 6 * x := rfl
theorem l_start {X : zX} {d : Nat} {w : Nat → Int32} {nS : Nat} (hst : (zl X).stackTraces = false) (hs : zScr X nS w) (hd : 146 ≤ d) {x : Nat} {D' : zD} (h : fl_loop w nS zFU 0 Mc_278.2 = some (1, x, D')) : Rn X m_L_law (d + 1) 0 [(0, .ref 1006000)] [] Mc_0 (some (.inl (some (.int 1)), ((zK0, Mc_278.1.2.1, 1 + x), D'))) := by
  refine r_new (ci := 11) zcf_11 zdv_11 cl_L_8 it_X11 iz_X11 zc_M0.2.1 (Nat.lt_trans zc_M0.small (by decide)) (zGrL zc_M1) d_L_law_0 ?_
  show Rn X m_L_law (d + 1) 3 [(0, .ref 1006000)] [.ref 0] Mc_1 _
  refine r_dup d_L_law_3 rfl ?_
  refine r_call (d2 := 0) (av := [.ref 0]) (st := [.ref 0]) (z_runI ck_X11_init rfl rfl ml_L_89 ci_X11_init rfl rfl (Nat.le_of_ble_eq_true rfl) d_L_law_4) (ct_34 hst (by omega)) (fun h => by cases h) (fun v M1 h => ?_) (fun E M1 h => by cases h)
  cases h
  refine ⟨zc_M1.le zc_M216 (Nat.le_of_ble_eq_true rfl), zGrL zc_M216, ?_⟩
  refine r_astore_n (ls' := [(1, .ref 0), (0, .ref 1006000)]) d_L_law_7 rfl (Nat.le_of_ble_eq_true rfl) rfl ?_
  refine r_new (ci := 12) zcf_12 zdv_12 cl_L_90 it_X12 iz_X12 zc_M216.2.1 (Nat.lt_trans zc_M216.small (by decide)) (zGrL zc_M217) d_L_law_8 ?_
  rw [zc_M216.len]
  show Rn X m_L_law (d + 1) 11 [(1, .ref 0), (0, .ref 1006000)] [.ref 102] Mc_217 _
  refine r_dup d_L_law_11 rfl ?_
  refine r_call (d2 := 0) (av := [.ref 102]) (st := [.ref 102]) (z_runI ck_X12_init rfl rfl ml_L_92 ci_X12_init rfl rfl (Nat.le_of_ble_eq_true rfl) d_L_law_12) (ct_35 hst (by omega)) (fun h => by cases h) (fun v M1 h => ?_) (fun E M1 h => by cases h)
  cases h
  refine ⟨zc_M217.le zc_M277 (Nat.le_of_ble_eq_true rfl), zGrL zc_M277, ?_⟩
  refine r_astore_n (ls' := [(2, .ref 102), (1, .ref 0), (0, .ref 1006000)]) d_L_law_15 rfl (Nat.le_of_ble_eq_true rfl) rfl ?_
  refine r_iconst (1 : Int32) d_L_law_16 rfl ?_
  refine r_newa (t := 1) (N := 1) (ty := .long) rfl (by decide) ac_long (by decide) rfl (by decide) zc_M277.2.1 (Nat.lt_trans zc_M277.small (by decide)) (zGrL zc_M278) d_L_law_17 ?_
  rw [zc_M277.len]
  show Rn X m_L_law (d + 1) 19 [(2, .ref 102), (1, .ref 0), (0, .ref 1006000)] [.ref 206] Mc_278 _
  refine r_astore_n (ls' := [(3, .ref 206), (2, .ref 102), (1, .ref 0), (0, .ref 1006000)]) d_L_law_19 rfl (Nat.le_of_ble_eq_true rfl) rfl ?_
  refine Rn_grant ?_ ?_
  · rw [zMex]
    intro o' M' e
    cases e
    rw [zcc_S, zcc_S, zsc_S, zsc_S]
    omega
  rw [zMex]
  refine r_iconst (0 : Int32) d_L_law_20 rfl ?_
  refine r_istore (ls' := [(4, .int (0 : Int32)), (3, .ref 206), (2, .ref 102), (1, .ref 0), (0, .ref 1006000)]) d_L_law_21 (Nat.le_of_ble_eq_true rfl) rfl ?_
  refine r_pick [4, 3, 2, 1, 0] (ls' := [(0, .ref 1006000), (1, .ref 0), (2, .ref 102), (3, .ref 206), (4, .int (0 : Int32))]) rfl ?_
  have g := ll_loop hst hs hd zFU (zK0, Mc_278.1.2.1, 1) (zShC_ok 0) 0 Mc_278.2
  rw [h] at g
  exact g
def z_tm : Nat → Term := fun i => match i with
  | 0 => .string zR1 43
  | 1 => .string zR1 56
  | 2 => .string zR1 64
  | 3 => .string zR1 73
  | 4 => .string zR1 75
  | 5 => .string zR1 79
  | 6 => .string zR1 85
  | 7 => .string zR1 87
  | 8 => .string zR1 92
  | 9 => .string zR7 93
  | 10 => .string zR7 99
  | 11 => .string zR7 103
  | 12 => .string zR7 107
  | 13 => .string zR7 111
  | 14 => .string zR7 115
  | 15 => .string zR7 81
  | 16 => .string zR7 68
  | 17 => .string zR11 384
  | 18 => .string zR11 200
  | 19 => .string zR11 388
  | 20 => .string zR11 217
  | 21 => .string zR11 220
  | 22 => .string zR11 391
  | 23 => .string zR11 232
  | 24 => .string zR11 234
  | 25 => .string zR11 402
  | 26 => .string zR11 396
  | 27 => .string zR11 303
  | 28 => .string zR11 344
  | 29 => .string zR11 398
  | _ => .string zR11 400
section ENTRY
variable {s : State} {b : Nat}
theorem z_flat (hgv : (Jvm.Cond.and given_1 narrow_1).before #[Value.ref b] s = true) : ∀ w ∈ flatC (Jvm.Cond.and given_1 narrow_1), w.before #[Value.ref b] s = true := flat_of_before _ hgv
/-- a text as it lies -/
def z_TX (s : State) (b i len : Nat) (byt : List Int32) (q : Nat × Nat) : Prop := (z_tm i).eval #[Value.ref b] s none [] s = some (.ref q.1) ∧ va_O "java/lang/String" q.1 (fun q => s.heap.size ≤ q) s s.heap ∧ va_OF "java/lang/String" "coder" "B" (.int 0) q.1 (fun q => s.heap.size ≤ q) s s.heap ∧ va_OF "java/lang/String" "value" "[B" (.ref q.2) q.1 (fun q => s.heap.size ≤ q) s s.heap ∧ va_T .byte q.2 len (fun j => .int (byt.getD j 0)) (fun q => s.heap.size ≤ q) s s.heap
theorem z_tx_0 (hs : ∀ w ∈ flatC (Jvm.Cond.and given_1 narrow_1), w.before #[Value.ref b] s = true) : ∃ q, z_TX s b 0 5 [98, 111, 97, 114, 100] q := by
  obtain ⟨K, V, h1, h2⟩ := vk_Sof (args := #[Value.ref b]) (s := s) (N := 1) (tm := fun _ => z_tm 0) (len := [5]) (byt := [[98, 111, 97, 114, 100]]) (A := fun q => s.heap.size ≤ q) (fun i hi => by rw [show i = 0 by omega]; decide) (fun i hi => hs _ (by decide +kernel)) (fun i hi => hs _ (by decide +kernel)) (fun i hi => hs _ (by decide +kernel)) (fun i hi => by rw [show i = 0 by omega]; exact hs _ (by decide +kernel))
    (fun i hi j hj => by
      rw [show i = 0 by omega] at hj ⊢
      have hj : j < 5 := hj
      match j, hj with
      | 0, _ => exact hs _ (by decide +kernel)
      | 1, _ => exact hs _ (by decide +kernel)
      | 2, _ => exact hs _ (by decide +kernel)
      | 3, _ => exact hs _ (by decide +kernel)
      | 4, _ => exact hs _ (by decide +kernel)
      | j + 5, hj => exact absurd hj (by omega))
    (fun i j hi hj hij => by exact absurd (show i = j by omega) hij) (fun a ha => Nat.not_le.mpr ha)
  exact ⟨(K 0, V 0), h2 0 (by decide), h1.1 0 (by decide)⟩
theorem z_tx_1 (hs : ∀ w ∈ flatC (Jvm.Cond.and given_1 narrow_1), w.before #[Value.ref b] s = true) : ∃ q, z_TX s b 1 4 [115, 105, 103, 110] q := by
  obtain ⟨K, V, h1, h2⟩ := vk_Sof (args := #[Value.ref b]) (s := s) (N := 1) (tm := fun _ => z_tm 1) (len := [4]) (byt := [[115, 105, 103, 110]]) (A := fun q => s.heap.size ≤ q) (fun i hi => by rw [show i = 0 by omega]; decide) (fun i hi => hs _ (by decide +kernel)) (fun i hi => hs _ (by decide +kernel)) (fun i hi => hs _ (by decide +kernel)) (fun i hi => by rw [show i = 0 by omega]; exact hs _ (by decide +kernel))
    (fun i hi j hj => by
      rw [show i = 0 by omega] at hj ⊢
      have hj : j < 4 := hj
      match j, hj with
      | 0, _ => exact hs _ (by decide +kernel)
      | 1, _ => exact hs _ (by decide +kernel)
      | 2, _ => exact hs _ (by decide +kernel)
      | 3, _ => exact hs _ (by decide +kernel)
      | j + 4, hj => exact absurd hj (by omega))
    (fun i j hi hj hij => by exact absurd (show i = j by omega) hij) (fun a ha => Nat.not_le.mpr ha)
  exact ⟨(K 0, V 0), h2 0 (by decide), h1.1 0 (by decide)⟩
theorem z_tx_2 (hs : ∀ w ∈ flatC (Jvm.Cond.and given_1 narrow_1), w.before #[Value.ref b] s = true) : ∃ q, z_TX s b 2 6 [97, 99, 114, 111, 115, 115] q := by
  obtain ⟨K, V, h1, h2⟩ := vk_Sof (args := #[Value.ref b]) (s := s) (N := 1) (tm := fun _ => z_tm 2) (len := [6]) (byt := [[97, 99, 114, 111, 115, 115]]) (A := fun q => s.heap.size ≤ q) (fun i hi => by rw [show i = 0 by omega]; decide) (fun i hi => hs _ (by decide +kernel)) (fun i hi => hs _ (by decide +kernel)) (fun i hi => hs _ (by decide +kernel)) (fun i hi => by rw [show i = 0 by omega]; exact hs _ (by decide +kernel))
    (fun i hi j hj => by
      rw [show i = 0 by omega] at hj ⊢
      have hj : j < 6 := hj
      match j, hj with
      | 0, _ => exact hs _ (by decide +kernel)
      | 1, _ => exact hs _ (by decide +kernel)
      | 2, _ => exact hs _ (by decide +kernel)
      | 3, _ => exact hs _ (by decide +kernel)
      | 4, _ => exact hs _ (by decide +kernel)
      | 5, _ => exact hs _ (by decide +kernel)
      | j + 6, hj => exact absurd hj (by omega))
    (fun i j hi hj hij => by exact absurd (show i = j by omega) hij) (fun a ha => Nat.not_le.mpr ha)
  exact ⟨(K 0, V 0), h2 0 (by decide), h1.1 0 (by decide)⟩
theorem z_tx_3 (hs : ∀ w ∈ flatC (Jvm.Cond.and given_1 narrow_1), w.before #[Value.ref b] s = true) : ∃ q, z_TX s b 3 4 [100, 111, 119, 110] q := by
  obtain ⟨K, V, h1, h2⟩ := vk_Sof (args := #[Value.ref b]) (s := s) (N := 1) (tm := fun _ => z_tm 3) (len := [4]) (byt := [[100, 111, 119, 110]]) (A := fun q => s.heap.size ≤ q) (fun i hi => by rw [show i = 0 by omega]; decide) (fun i hi => hs _ (by decide +kernel)) (fun i hi => hs _ (by decide +kernel)) (fun i hi => hs _ (by decide +kernel)) (fun i hi => by rw [show i = 0 by omega]; exact hs _ (by decide +kernel))
    (fun i hi j hj => by
      rw [show i = 0 by omega] at hj ⊢
      have hj : j < 4 := hj
      match j, hj with
      | 0, _ => exact hs _ (by decide +kernel)
      | 1, _ => exact hs _ (by decide +kernel)
      | 2, _ => exact hs _ (by decide +kernel)
      | 3, _ => exact hs _ (by decide +kernel)
      | j + 4, hj => exact absurd hj (by omega))
    (fun i j hi hj hij => by exact absurd (show i = j by omega) hij) (fun a ha => Nat.not_le.mpr ha)
  exact ⟨(K 0, V 0), h2 0 (by decide), h1.1 0 (by decide)⟩
theorem z_tx_4 (hs : ∀ w ∈ flatC (Jvm.Cond.and given_1 narrow_1), w.before #[Value.ref b] s = true) : ∃ q, z_TX s b 4 5 [99, 108, 101, 97, 110] q := by
  obtain ⟨K, V, h1, h2⟩ := vk_Sof (args := #[Value.ref b]) (s := s) (N := 1) (tm := fun _ => z_tm 4) (len := [5]) (byt := [[99, 108, 101, 97, 110]]) (A := fun q => s.heap.size ≤ q) (fun i hi => by rw [show i = 0 by omega]; decide) (fun i hi => hs _ (by decide +kernel)) (fun i hi => hs _ (by decide +kernel)) (fun i hi => hs _ (by decide +kernel)) (fun i hi => by rw [show i = 0 by omega]; exact hs _ (by decide +kernel))
    (fun i hi j hj => by
      rw [show i = 0 by omega] at hj ⊢
      have hj : j < 5 := hj
      match j, hj with
      | 0, _ => exact hs _ (by decide +kernel)
      | 1, _ => exact hs _ (by decide +kernel)
      | 2, _ => exact hs _ (by decide +kernel)
      | 3, _ => exact hs _ (by decide +kernel)
      | 4, _ => exact hs _ (by decide +kernel)
      | j + 5, hj => exact absurd hj (by omega))
    (fun i j hi hj hij => by exact absurd (show i = j by omega) hij) (fun a ha => Nat.not_le.mpr ha)
  exact ⟨(K 0, V 0), h2 0 (by decide), h1.1 0 (by decide)⟩
theorem z_tx_5 (hs : ∀ w ∈ flatC (Jvm.Cond.and given_1 narrow_1), w.before #[Value.ref b] s = true) : ∃ q, z_TX s b 5 6 [116, 117, 114, 110, 101, 100] q := by
  obtain ⟨K, V, h1, h2⟩ := vk_Sof (args := #[Value.ref b]) (s := s) (N := 1) (tm := fun _ => z_tm 5) (len := [6]) (byt := [[116, 117, 114, 110, 101, 100]]) (A := fun q => s.heap.size ≤ q) (fun i hi => by rw [show i = 0 by omega]; decide) (fun i hi => hs _ (by decide +kernel)) (fun i hi => hs _ (by decide +kernel)) (fun i hi => hs _ (by decide +kernel)) (fun i hi => by rw [show i = 0 by omega]; exact hs _ (by decide +kernel))
    (fun i hi j hj => by
      rw [show i = 0 by omega] at hj ⊢
      have hj : j < 6 := hj
      match j, hj with
      | 0, _ => exact hs _ (by decide +kernel)
      | 1, _ => exact hs _ (by decide +kernel)
      | 2, _ => exact hs _ (by decide +kernel)
      | 3, _ => exact hs _ (by decide +kernel)
      | 4, _ => exact hs _ (by decide +kernel)
      | 5, _ => exact hs _ (by decide +kernel)
      | j + 6, hj => exact absurd hj (by omega))
    (fun i j hi hj hij => by exact absurd (show i = j by omega) hij) (fun a ha => Nat.not_le.mpr ha)
  exact ⟨(K 0, V 0), h2 0 (by decide), h1.1 0 (by decide)⟩
theorem z_tx_6 (hs : ∀ w ∈ flatC (Jvm.Cond.and given_1 narrow_1), w.before #[Value.ref b] s = true) : ∃ q, z_TX s b 6 6 [109, 105, 114, 114, 111, 114] q := by
  obtain ⟨K, V, h1, h2⟩ := vk_Sof (args := #[Value.ref b]) (s := s) (N := 1) (tm := fun _ => z_tm 6) (len := [6]) (byt := [[109, 105, 114, 114, 111, 114]]) (A := fun q => s.heap.size ≤ q) (fun i hi => by rw [show i = 0 by omega]; decide) (fun i hi => hs _ (by decide +kernel)) (fun i hi => hs _ (by decide +kernel)) (fun i hi => hs _ (by decide +kernel)) (fun i hi => by rw [show i = 0 by omega]; exact hs _ (by decide +kernel))
    (fun i hi j hj => by
      rw [show i = 0 by omega] at hj ⊢
      have hj : j < 6 := hj
      match j, hj with
      | 0, _ => exact hs _ (by decide +kernel)
      | 1, _ => exact hs _ (by decide +kernel)
      | 2, _ => exact hs _ (by decide +kernel)
      | 3, _ => exact hs _ (by decide +kernel)
      | 4, _ => exact hs _ (by decide +kernel)
      | 5, _ => exact hs _ (by decide +kernel)
      | j + 6, hj => exact absurd hj (by omega))
    (fun i j hi hj hij => by exact absurd (show i = j by omega) hij) (fun a ha => Nat.not_le.mpr ha)
  exact ⟨(K 0, V 0), h2 0 (by decide), h1.1 0 (by decide)⟩
theorem z_tx_7 (hs : ∀ w ∈ flatC (Jvm.Cond.and given_1 narrow_1), w.before #[Value.ref b] s = true) : ∃ q, z_TX s b 7 6 [102, 97, 109, 105, 108, 121] q := by
  obtain ⟨K, V, h1, h2⟩ := vk_Sof (args := #[Value.ref b]) (s := s) (N := 1) (tm := fun _ => z_tm 7) (len := [6]) (byt := [[102, 97, 109, 105, 108, 121]]) (A := fun q => s.heap.size ≤ q) (fun i hi => by rw [show i = 0 by omega]; decide) (fun i hi => hs _ (by decide +kernel)) (fun i hi => hs _ (by decide +kernel)) (fun i hi => hs _ (by decide +kernel)) (fun i hi => by rw [show i = 0 by omega]; exact hs _ (by decide +kernel))
    (fun i hi j hj => by
      rw [show i = 0 by omega] at hj ⊢
      have hj : j < 6 := hj
      match j, hj with
      | 0, _ => exact hs _ (by decide +kernel)
      | 1, _ => exact hs _ (by decide +kernel)
      | 2, _ => exact hs _ (by decide +kernel)
      | 3, _ => exact hs _ (by decide +kernel)
      | 4, _ => exact hs _ (by decide +kernel)
      | 5, _ => exact hs _ (by decide +kernel)
      | j + 6, hj => exact absurd hj (by omega))
    (fun i j hi hj hij => by exact absurd (show i = j by omega) hij) (fun a ha => Nat.not_le.mpr ha)
  exact ⟨(K 0, V 0), h2 0 (by decide), h1.1 0 (by decide)⟩
theorem z_tx_8 (hs : ∀ w ∈ flatC (Jvm.Cond.and given_1 narrow_1), w.before #[Value.ref b] s = true) : ∃ q, z_TX s b 8 4 [119, 111, 114, 100] q := by
  obtain ⟨K, V, h1, h2⟩ := vk_Sof (args := #[Value.ref b]) (s := s) (N := 1) (tm := fun _ => z_tm 8) (len := [4]) (byt := [[119, 111, 114, 100]]) (A := fun q => s.heap.size ≤ q) (fun i hi => by rw [show i = 0 by omega]; decide) (fun i hi => hs _ (by decide +kernel)) (fun i hi => hs _ (by decide +kernel)) (fun i hi => hs _ (by decide +kernel)) (fun i hi => by rw [show i = 0 by omega]; exact hs _ (by decide +kernel))
    (fun i hi j hj => by
      rw [show i = 0 by omega] at hj ⊢
      have hj : j < 4 := hj
      match j, hj with
      | 0, _ => exact hs _ (by decide +kernel)
      | 1, _ => exact hs _ (by decide +kernel)
      | 2, _ => exact hs _ (by decide +kernel)
      | 3, _ => exact hs _ (by decide +kernel)
      | j + 4, hj => exact absurd hj (by omega))
    (fun i j hi hj hij => by exact absurd (show i = j by omega) hij) (fun a ha => Nat.not_le.mpr ha)
  exact ⟨(K 0, V 0), h2 0 (by decide), h1.1 0 (by decide)⟩
theorem z_tx_9 (hs : ∀ w ∈ flatC (Jvm.Cond.and given_1 narrow_1), w.before #[Value.ref b] s = true) : ∃ q, z_TX s b 9 3 [110, 111, 116] q := by
  obtain ⟨K, V, h1, h2⟩ := vk_Sof (args := #[Value.ref b]) (s := s) (N := 1) (tm := fun _ => z_tm 9) (len := [3]) (byt := [[110, 111, 116]]) (A := fun q => s.heap.size ≤ q) (fun i hi => by rw [show i = 0 by omega]; decide) (fun i hi => hs _ (by decide +kernel)) (fun i hi => hs _ (by decide +kernel)) (fun i hi => hs _ (by decide +kernel)) (fun i hi => by rw [show i = 0 by omega]; exact hs _ (by decide +kernel))
    (fun i hi j hj => by
      rw [show i = 0 by omega] at hj ⊢
      have hj : j < 3 := hj
      match j, hj with
      | 0, _ => exact hs _ (by decide +kernel)
      | 1, _ => exact hs _ (by decide +kernel)
      | 2, _ => exact hs _ (by decide +kernel)
      | j + 3, hj => exact absurd hj (by omega))
    (fun i j hi hj hij => by exact absurd (show i = j by omega) hij) (fun a ha => Nat.not_le.mpr ha)
  exact ⟨(K 0, V 0), h2 0 (by decide), h1.1 0 (by decide)⟩
theorem z_tx_10 (hs : ∀ w ∈ flatC (Jvm.Cond.and given_1 narrow_1), w.before #[Value.ref b] s = true) : ∃ q, z_TX s b 10 4 [115, 105, 100, 101] q := by
  obtain ⟨K, V, h1, h2⟩ := vk_Sof (args := #[Value.ref b]) (s := s) (N := 1) (tm := fun _ => z_tm 10) (len := [4]) (byt := [[115, 105, 100, 101]]) (A := fun q => s.heap.size ≤ q) (fun i hi => by rw [show i = 0 by omega]; decide) (fun i hi => hs _ (by decide +kernel)) (fun i hi => hs _ (by decide +kernel)) (fun i hi => hs _ (by decide +kernel)) (fun i hi => by rw [show i = 0 by omega]; exact hs _ (by decide +kernel))
    (fun i hi j hj => by
      rw [show i = 0 by omega] at hj ⊢
      have hj : j < 4 := hj
      match j, hj with
      | 0, _ => exact hs _ (by decide +kernel)
      | 1, _ => exact hs _ (by decide +kernel)
      | 2, _ => exact hs _ (by decide +kernel)
      | 3, _ => exact hs _ (by decide +kernel)
      | j + 4, hj => exact absurd hj (by omega))
    (fun i j hi hj hij => by exact absurd (show i = j by omega) hij) (fun a ha => Nat.not_le.mpr ha)
  exact ⟨(K 0, V 0), h2 0 (by decide), h1.1 0 (by decide)⟩
theorem z_tx_11 (hs : ∀ w ∈ flatC (Jvm.Cond.and given_1 narrow_1), w.before #[Value.ref b] s = true) : ∃ q, z_TX s b 11 6 [99, 111, 114, 110, 101, 114] q := by
  obtain ⟨K, V, h1, h2⟩ := vk_Sof (args := #[Value.ref b]) (s := s) (N := 1) (tm := fun _ => z_tm 11) (len := [6]) (byt := [[99, 111, 114, 110, 101, 114]]) (A := fun q => s.heap.size ≤ q) (fun i hi => by rw [show i = 0 by omega]; decide) (fun i hi => hs _ (by decide +kernel)) (fun i hi => hs _ (by decide +kernel)) (fun i hi => hs _ (by decide +kernel)) (fun i hi => by rw [show i = 0 by omega]; exact hs _ (by decide +kernel))
    (fun i hi j hj => by
      rw [show i = 0 by omega] at hj ⊢
      have hj : j < 6 := hj
      match j, hj with
      | 0, _ => exact hs _ (by decide +kernel)
      | 1, _ => exact hs _ (by decide +kernel)
      | 2, _ => exact hs _ (by decide +kernel)
      | 3, _ => exact hs _ (by decide +kernel)
      | 4, _ => exact hs _ (by decide +kernel)
      | 5, _ => exact hs _ (by decide +kernel)
      | j + 6, hj => exact absurd hj (by omega))
    (fun i j hi hj hij => by exact absurd (show i = j by omega) hij) (fun a ha => Nat.not_le.mpr ha)
  exact ⟨(K 0, V 0), h2 0 (by decide), h1.1 0 (by decide)⟩
theorem z_tx_12 (hs : ∀ w ∈ flatC (Jvm.Cond.and given_1 narrow_1), w.before #[Value.ref b] s = true) : ∃ q, z_TX s b 12 3 [97, 110, 121] q := by
  obtain ⟨K, V, h1, h2⟩ := vk_Sof (args := #[Value.ref b]) (s := s) (N := 1) (tm := fun _ => z_tm 12) (len := [3]) (byt := [[97, 110, 121]]) (A := fun q => s.heap.size ≤ q) (fun i hi => by rw [show i = 0 by omega]; decide) (fun i hi => hs _ (by decide +kernel)) (fun i hi => hs _ (by decide +kernel)) (fun i hi => hs _ (by decide +kernel)) (fun i hi => by rw [show i = 0 by omega]; exact hs _ (by decide +kernel))
    (fun i hi j hj => by
      rw [show i = 0 by omega] at hj ⊢
      have hj : j < 3 := hj
      match j, hj with
      | 0, _ => exact hs _ (by decide +kernel)
      | 1, _ => exact hs _ (by decide +kernel)
      | 2, _ => exact hs _ (by decide +kernel)
      | j + 3, hj => exact absurd hj (by omega))
    (fun i j hi hj hij => by exact absurd (show i = j by omega) hij) (fun a ha => Nat.not_le.mpr ha)
  exact ⟨(K 0, V 0), h2 0 (by decide), h1.1 0 (by decide)⟩
theorem z_tx_13 (hs : ∀ w ∈ flatC (Jvm.Cond.and given_1 narrow_1), w.before #[Value.ref b] s = true) : ∃ q, z_TX s b 13 5 [102, 114, 111, 110, 116] q := by
  obtain ⟨K, V, h1, h2⟩ := vk_Sof (args := #[Value.ref b]) (s := s) (N := 1) (tm := fun _ => z_tm 13) (len := [5]) (byt := [[102, 114, 111, 110, 116]]) (A := fun q => s.heap.size ≤ q) (fun i hi => by rw [show i = 0 by omega]; decide) (fun i hi => hs _ (by decide +kernel)) (fun i hi => hs _ (by decide +kernel)) (fun i hi => hs _ (by decide +kernel)) (fun i hi => by rw [show i = 0 by omega]; exact hs _ (by decide +kernel))
    (fun i hi j hj => by
      rw [show i = 0 by omega] at hj ⊢
      have hj : j < 5 := hj
      match j, hj with
      | 0, _ => exact hs _ (by decide +kernel)
      | 1, _ => exact hs _ (by decide +kernel)
      | 2, _ => exact hs _ (by decide +kernel)
      | 3, _ => exact hs _ (by decide +kernel)
      | 4, _ => exact hs _ (by decide +kernel)
      | j + 5, hj => exact absurd hj (by omega))
    (fun i j hi hj hij => by exact absurd (show i = j by omega) hij) (fun a ha => Nat.not_le.mpr ha)
  exact ⟨(K 0, V 0), h2 0 (by decide), h1.1 0 (by decide)⟩
theorem z_tx_14 (hs : ∀ w ∈ flatC (Jvm.Cond.and given_1 narrow_1), w.before #[Value.ref b] s = true) : ∃ q, z_TX s b 14 3 [102, 111, 103] q := by
  obtain ⟨K, V, h1, h2⟩ := vk_Sof (args := #[Value.ref b]) (s := s) (N := 1) (tm := fun _ => z_tm 14) (len := [3]) (byt := [[102, 111, 103]]) (A := fun q => s.heap.size ≤ q) (fun i hi => by rw [show i = 0 by omega]; decide) (fun i hi => hs _ (by decide +kernel)) (fun i hi => hs _ (by decide +kernel)) (fun i hi => hs _ (by decide +kernel)) (fun i hi => by rw [show i = 0 by omega]; exact hs _ (by decide +kernel))
    (fun i hi j hj => by
      rw [show i = 0 by omega] at hj ⊢
      have hj : j < 3 := hj
      match j, hj with
      | 0, _ => exact hs _ (by decide +kernel)
      | 1, _ => exact hs _ (by decide +kernel)
      | 2, _ => exact hs _ (by decide +kernel)
      | j + 3, hj => exact absurd hj (by omega))
    (fun i j hi hj hij => by exact absurd (show i = j by omega) hij) (fun a ha => Nat.not_le.mpr ha)
  exact ⟨(K 0, V 0), h2 0 (by decide), h1.1 0 (by decide)⟩
theorem z_tx_15 (hs : ∀ w ∈ flatC (Jvm.Cond.and given_1 narrow_1), w.before #[Value.ref b] s = true) : ∃ q, z_TX s b 15 3 [97, 110, 100] q := by
  obtain ⟨K, V, h1, h2⟩ := vk_Sof (args := #[Value.ref b]) (s := s) (N := 1) (tm := fun _ => z_tm 15) (len := [3]) (byt := [[97, 110, 100]]) (A := fun q => s.heap.size ≤ q) (fun i hi => by rw [show i = 0 by omega]; decide) (fun i hi => hs _ (by decide +kernel)) (fun i hi => hs _ (by decide +kernel)) (fun i hi => hs _ (by decide +kernel)) (fun i hi => by rw [show i = 0 by omega]; exact hs _ (by decide +kernel))
    (fun i hi j hj => by
      rw [show i = 0 by omega] at hj ⊢
      have hj : j < 3 := hj
      match j, hj with
      | 0, _ => exact hs _ (by decide +kernel)
      | 1, _ => exact hs _ (by decide +kernel)
      | 2, _ => exact hs _ (by decide +kernel)
      | j + 3, hj => exact absurd hj (by omega))
    (fun i j hi hj hij => by exact absurd (show i = j by omega) hij) (fun a ha => Nat.not_le.mpr ha)
  exact ⟨(K 0, V 0), h2 0 (by decide), h1.1 0 (by decide)⟩
theorem z_tx_16 (hs : ∀ w ∈ flatC (Jvm.Cond.and given_1 narrow_1), w.before #[Value.ref b] s = true) : ∃ q, z_TX s b 16 2 [111, 114] q := by
  obtain ⟨K, V, h1, h2⟩ := vk_Sof (args := #[Value.ref b]) (s := s) (N := 1) (tm := fun _ => z_tm 16) (len := [2]) (byt := [[111, 114]]) (A := fun q => s.heap.size ≤ q) (fun i hi => by rw [show i = 0 by omega]; decide) (fun i hi => hs _ (by decide +kernel)) (fun i hi => hs _ (by decide +kernel)) (fun i hi => hs _ (by decide +kernel)) (fun i hi => by rw [show i = 0 by omega]; exact hs _ (by decide +kernel))
    (fun i hi j hj => by
      rw [show i = 0 by omega] at hj ⊢
      have hj : j < 2 := hj
      match j, hj with
      | 0, _ => exact hs _ (by decide +kernel)
      | 1, _ => exact hs _ (by decide +kernel)
      | j + 2, hj => exact absurd hj (by omega))
    (fun i j hi hj hij => by exact absurd (show i = j by omega) hij) (fun a ha => Nat.not_le.mpr ha)
  exact ⟨(K 0, V 0), h2 0 (by decide), h1.1 0 (by decide)⟩
theorem z_txx (hs : ∀ w ∈ flatC (Jvm.Cond.and given_1 narrow_1), w.before #[Value.ref b] s = true) : ∃ K V : Nat → Nat, ∀ i, i < 17 → z_TX s b i (z_lenS.getD i 0) (z_bytS.getD i []) (K i, V i) := by
  have h0 : ∀ i : Nat, ∃ q : Nat × Nat, i < 17 → z_TX s b i (z_lenS.getD i 0) (z_bytS.getD i []) q := by
    intro i
    by_cases hi : i < 17
    · match i, hi with
      | 0, _ => obtain ⟨q, h⟩ := z_tx_0 hs; exact ⟨q, fun _ => h⟩
      | 1, _ => obtain ⟨q, h⟩ := z_tx_1 hs; exact ⟨q, fun _ => h⟩
      | 2, _ => obtain ⟨q, h⟩ := z_tx_2 hs; exact ⟨q, fun _ => h⟩
      | 3, _ => obtain ⟨q, h⟩ := z_tx_3 hs; exact ⟨q, fun _ => h⟩
      | 4, _ => obtain ⟨q, h⟩ := z_tx_4 hs; exact ⟨q, fun _ => h⟩
      | 5, _ => obtain ⟨q, h⟩ := z_tx_5 hs; exact ⟨q, fun _ => h⟩
      | 6, _ => obtain ⟨q, h⟩ := z_tx_6 hs; exact ⟨q, fun _ => h⟩
      | 7, _ => obtain ⟨q, h⟩ := z_tx_7 hs; exact ⟨q, fun _ => h⟩
      | 8, _ => obtain ⟨q, h⟩ := z_tx_8 hs; exact ⟨q, fun _ => h⟩
      | 9, _ => obtain ⟨q, h⟩ := z_tx_9 hs; exact ⟨q, fun _ => h⟩
      | 10, _ => obtain ⟨q, h⟩ := z_tx_10 hs; exact ⟨q, fun _ => h⟩
      | 11, _ => obtain ⟨q, h⟩ := z_tx_11 hs; exact ⟨q, fun _ => h⟩
      | 12, _ => obtain ⟨q, h⟩ := z_tx_12 hs; exact ⟨q, fun _ => h⟩
      | 13, _ => obtain ⟨q, h⟩ := z_tx_13 hs; exact ⟨q, fun _ => h⟩
      | 14, _ => obtain ⟨q, h⟩ := z_tx_14 hs; exact ⟨q, fun _ => h⟩
      | 15, _ => obtain ⟨q, h⟩ := z_tx_15 hs; exact ⟨q, fun _ => h⟩
      | 16, _ => obtain ⟨q, h⟩ := z_tx_16 hs; exact ⟨q, fun _ => h⟩
      | i + 17, hi => exact absurd hi (by omega)
    · exact ⟨(0, 0), fun h => absurd h hi⟩
  obtain ⟨ad, h⟩ := Classical.axiomOfChoice h0
  exact ⟨fun i => (ad i).1, fun i => (ad i).2, h⟩
theorem z_OFu {o n dd : String} {v v' : Value} {t : Nat} {A : Nat → Prop} {U : State} {H : Heap} (h : va_OF o n dd v t A U H) (h' : va_OF o n dd v' t A U H) : v = v' := by
  obtain ⟨cf, k, i, f, cell, h1, -, h2, -, h3, -⟩ := h
  obtain ⟨cf', k', i', f', cell', g1, -, g2, -, g3, -⟩ := h'
  rw [h1] at g1
  rw [h2] at g2
  cases g1
  cases g2
  exact Option.some.inj (h3.symm.trans g3)
theorem z_Tu {t N N' : Nat} {f f' : Nat → Value} {A : Nat → Prop} {U : State} {H : Heap} (hN : N < 1000) (hN' : N' < 1000) (h : va_T .byte t N f A U H) (h' : va_T .byte t N' f' A U H) : N = N' ∧ ∀ j, j < N → f j = f' j := by
  obtain ⟨cell, h1, -, -, -, h2, h3, -⟩ := h
  obtain ⟨cell', g1, -, -, -, g2, g3, -⟩ := h'
  rw [h1] at g1
  cases g1
  have e : N = N' := by
    have e0 : Int32.ofNat N = Int32.ofNat N' := h2.symm.trans g2
    have e1 : (Int32.ofNat N).toInt = N := nI_toInt (n := N) (by omega)
    have e2 : (Int32.ofNat N').toInt = N' := nI_toInt (n := N') (by omega)
    rw [e0, e2] at e1
    omega
  subst e
  exact ⟨rfl, fun j hj => Option.some.inj ((h3 j hj).symm.trans (g3 j hj))⟩
theorem z_texts_apart : ∀ i, i < 17 → ∀ j, j < 17 → i ≠ j → z_lenS.getD i 0 ≠ z_lenS.getD j 0 ∨ ∃ k, k < z_lenS.getD i 0 ∧ (z_bytS.getD i []).getD k 0 ≠ (z_bytS.getD j []).getD k 0 := by
  have key : ∀ i, i < 17 → ∀ j, j < 17 → (i = j ∨ z_lenS.getD i 0 ≠ z_lenS.getD j 0 ∨ ∃ k, k < 10 ∧ k < z_lenS.getD i 0 ∧ (z_bytS.getD i []).getD k 0 ≠ (z_bytS.getD j []).getD k 0) := by decide +kernel
  intro i hi j hj hij
  rcases key i hi j hj with h | h | ⟨k, -, h1, h2⟩
  · exact absurd h hij
  · exact Or.inl h
  · exact Or.inr ⟨k, h1, h2⟩
theorem z_texts_inj {K V : Nat → Nat} (h : ∀ i, i < 17 → z_TX s b i (z_lenS.getD i 0) (z_bytS.getD i []) (K i, V i)) {i j : Nat} (hi : i < 17) (hj : j < 17) (e : K i = K j) : i = j := by
  by_cases hij : i = j
  · exact hij
  obtain ⟨-, -, -, a1, a2⟩ := h i hi
  obtain ⟨-, -, -, b1, b2⟩ := h j hj
  simp only at a1 b1 a2 b2
  rw [e] at a1
  have ev : V i = V j := Value.ref.inj (z_OFu a1 b1)
  rw [ev] at a2
  have hb : ∀ i, i < 17 → z_lenS.getD i 0 < 1000 := by decide +kernel
  obtain ⟨c1, c2⟩ := z_Tu (hb i hi) (hb j hj) a2 b2
  rcases z_texts_apart i hi j hj hij with g | ⟨k, g1, g2⟩
  · exact absurd c1 g
  · have := c2 k g1
    simp only [Value.int.injEq] at this
    exact absurd this g2
theorem z_ev (hs : ∀ w ∈ flatC (Jvm.Cond.and given_1 narrow_1), w.before #[Value.ref b] s = true) (i : Nat) (hi : i < 31) : ∃ a : Nat, (z_tm i).eval #[Value.ref b] s none [] s = some (.ref a) := by
  have key : (Cond.exactly (z_tm i) "java/lang/String").before #[Value.ref b] s = true := by
    match i, hi with
    | 0, _ => exact hs _ (by decide +kernel)
    | 1, _ => exact hs _ (by decide +kernel)
    | 2, _ => exact hs _ (by decide +kernel)
    | 3, _ => exact hs _ (by decide +kernel)
    | 4, _ => exact hs _ (by decide +kernel)
    | 5, _ => exact hs _ (by decide +kernel)
    | 6, _ => exact hs _ (by decide +kernel)
    | 7, _ => exact hs _ (by decide +kernel)
    | 8, _ => exact hs _ (by decide +kernel)
    | 9, _ => exact hs _ (by decide +kernel)
    | 10, _ => exact hs _ (by decide +kernel)
    | 11, _ => exact hs _ (by decide +kernel)
    | 12, _ => exact hs _ (by decide +kernel)
    | 13, _ => exact hs _ (by decide +kernel)
    | 14, _ => exact hs _ (by decide +kernel)
    | 15, _ => exact hs _ (by decide +kernel)
    | 16, _ => exact hs _ (by decide +kernel)
    | 17, _ => exact hs _ (by decide +kernel)
    | 18, _ => exact hs _ (by decide +kernel)
    | 19, _ => exact hs _ (by decide +kernel)
    | 20, _ => exact hs _ (by decide +kernel)
    | 21, _ => exact hs _ (by decide +kernel)
    | 22, _ => exact hs _ (by decide +kernel)
    | 23, _ => exact hs _ (by decide +kernel)
    | 24, _ => exact hs _ (by decide +kernel)
    | 25, _ => exact hs _ (by decide +kernel)
    | 26, _ => exact hs _ (by decide +kernel)
    | 27, _ => exact hs _ (by decide +kernel)
    | 28, _ => exact hs _ (by decide +kernel)
    | 29, _ => exact hs _ (by decide +kernel)
    | 30, _ => exact hs _ (by decide +kernel)
    | i + 31, hi => exact absurd hi (by omega)
  obtain ⟨a, c, cA, kA, q1, -⟩ := Cond.exactly_spec (args := #[Value.ref b]) (first := s) (o := none) (s := s) (idx := []) (t := z_tm i) (cls := "java/lang/String") key
  exact ⟨a, q1⟩
end ENTRY
