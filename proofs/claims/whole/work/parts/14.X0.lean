/-! CoveredSigns$Alphabet.clear -/
theorem d_X0_clear_0 : decode (yB m_X0_clear) 0 = .ok (.aload_n 0, 1) := by decide +kernel
theorem d_X0_clear_1 : decode (yB m_X0_clear) 1 = .ok (.bipush 6, 2) := by decide +kernel
theorem d_X0_clear_3 : decode (yB m_X0_clear) 3 = .ok (.putfield 9, 3) := by decide +kernel
theorem d_X0_clear_6 : decode (yB m_X0_clear) 6 = .ok (.aload_n 0, 1) := by decide +kernel
theorem d_X0_clear_7 : decode (yB m_X0_clear) 7 = .ok (.iconst 5, 1) := by decide +kernel
theorem d_X0_clear_8 : decode (yB m_X0_clear) 8 = .ok (.putfield 15, 3) := by decide +kernel
theorem d_X0_clear_11 : decode (yB m_X0_clear) 11 = .ok (.aload_n 0, 1) := by decide +kernel
theorem d_X0_clear_12 : decode (yB m_X0_clear) 12 = .ok (.iconst 0, 1) := by decide +kernel
theorem d_X0_clear_13 : decode (yB m_X0_clear) 13 = .ok (.putfield 40, 3) := by decide +kernel
theorem d_X0_clear_16 : decode (yB m_X0_clear) 16 = .ok (.aload_n 0, 1) := by decide +kernel
theorem d_X0_clear_17 : decode (yB m_X0_clear) 17 = .ok (.iconst 0, 1) := by decide +kernel
theorem d_X0_clear_18 : decode (yB m_X0_clear) 18 = .ok (.putfield 43, 3) := by decide +kernel
theorem d_X0_clear_21 : decode (yB m_X0_clear) 21 = .ok (.return_, 1) := by decide +kernel
def fn_X0_clear (a0 : Nat) (D : zD) : Option zD := zlet (sI D a0 0 (6 : Int32)) fun D1 => zlet (sI D1 a0 1 (5 : Int32)) fun D2 => zlet (sI D2 a0 2 (0 : Int32)) fun D3 => zlet (sI D3 a0 3 (0 : Int32)) fun D4 => (some D4)
theorem s_X0_clear {X : zX} {Sh : zSh} {d : Nat} (hst : (zl X).stackTraces = false) (h0 : zSh0 Sh) (hd : 1 ≤ d) {a0 : Nat} (h_a0 : a0 ∈ zI_0) {D : zD} : Sd X m_X0_clear d [.ref a0] (Sh, D) ((oV Sh) (fn_X0_clear a0 D)) := by
  obtain ⟨d, rfl⟩ : ∃ e, d = e + 1 := ⟨d - 1, by omega⟩
  replace hd : 0 ≤ d := by omega
  refine z_body ck_X0_clear rfl (Nat.le_of_ble_eq_true rfl) rfl hst ?_
  rw [fn_X0_clear]
  show Rn X m_X0_clear (d + 1) 0 [(0, .ref a0)] [] (Sh, D) _
  refine r_aload_n (pc := 0) 0 d_X0_clear_0 rfl rfl ?_
  refine r_bipush (pc := 1) (6 : Int32) d_X0_clear_1 rfl ?_
  refine r_putI (pc := 3) p_X0_9 (LK_0 h0 h_a0) rfl (Or.inl rfl) d_X0_clear_3 ?_
  refine r_letD (f := (oV Sh)) (fun D1 => ?_)
  refine r_aload_n (pc := 6) 0 d_X0_clear_6 rfl rfl ?_
  refine r_iconst (pc := 7) (5 : Int32) d_X0_clear_7 rfl ?_
  refine r_putI (pc := 8) p_X0_15 (LK_0 h0 h_a0) rfl (Or.inl rfl) d_X0_clear_8 ?_
  refine r_letD (f := (oV Sh)) (fun D2 => ?_)
  refine r_aload_n (pc := 11) 0 d_X0_clear_11 rfl rfl ?_
  refine r_iconst (pc := 12) (0 : Int32) d_X0_clear_12 rfl ?_
  refine r_putI (pc := 13) p_X0_40 (LK_0 h0 h_a0) rfl (Or.inl rfl) d_X0_clear_13 ?_
  refine r_letD (f := (oV Sh)) (fun D3 => ?_)
  refine r_aload_n (pc := 16) 0 d_X0_clear_16 rfl rfl ?_
  refine r_iconst (pc := 17) (0 : Int32) d_X0_clear_17 rfl ?_
  refine r_putI (pc := 18) p_X0_43 (LK_0 h0 h_a0) rfl (Or.inl rfl) d_X0_clear_18 ?_
  refine r_letD (f := (oV Sh)) (fun D4 => ?_)
  exact r_vret (pc := 21) rfl d_X0_clear_21
/-! CoveredSigns$Alphabet.copyFrom -/
theorem d_X0_copyFrom_0 : decode (yB m_X0_copyFrom) 0 = .ok (.aload_n 1, 1) := by decide +kernel
theorem d_X0_copyFrom_1 : decode (yB m_X0_copyFrom) 1 = .ok (.ifnonnull 4, 3) := by decide +kernel
theorem d_X0_copyFrom_4 : decode (yB m_X0_copyFrom) 4 = .ok (.return_, 1) := by decide +kernel
theorem d_X0_copyFrom_5 : decode (yB m_X0_copyFrom) 5 = .ok (.aload_n 0, 1) := by decide +kernel
theorem d_X0_copyFrom_6 : decode (yB m_X0_copyFrom) 6 = .ok (.aload_n 1, 1) := by decide +kernel
theorem d_X0_copyFrom_7 : decode (yB m_X0_copyFrom) 7 = .ok (.getfield 9, 3) := by decide +kernel
theorem d_X0_copyFrom_10 : decode (yB m_X0_copyFrom) 10 = .ok (.putfield 9, 3) := by decide +kernel
theorem d_X0_copyFrom_13 : decode (yB m_X0_copyFrom) 13 = .ok (.aload_n 0, 1) := by decide +kernel
theorem d_X0_copyFrom_14 : decode (yB m_X0_copyFrom) 14 = .ok (.aload_n 1, 1) := by decide +kernel
theorem d_X0_copyFrom_15 : decode (yB m_X0_copyFrom) 15 = .ok (.getfield 15, 3) := by decide +kernel
theorem d_X0_copyFrom_18 : decode (yB m_X0_copyFrom) 18 = .ok (.putfield 15, 3) := by decide +kernel
theorem d_X0_copyFrom_21 : decode (yB m_X0_copyFrom) 21 = .ok (.aload_n 0, 1) := by decide +kernel
theorem d_X0_copyFrom_22 : decode (yB m_X0_copyFrom) 22 = .ok (.aload_n 1, 1) := by decide +kernel
theorem d_X0_copyFrom_23 : decode (yB m_X0_copyFrom) 23 = .ok (.getfield 40, 3) := by decide +kernel
theorem d_X0_copyFrom_26 : decode (yB m_X0_copyFrom) 26 = .ok (.putfield 40, 3) := by decide +kernel
theorem d_X0_copyFrom_29 : decode (yB m_X0_copyFrom) 29 = .ok (.aload_n 0, 1) := by decide +kernel
theorem d_X0_copyFrom_30 : decode (yB m_X0_copyFrom) 30 = .ok (.aload_n 1, 1) := by decide +kernel
theorem d_X0_copyFrom_31 : decode (yB m_X0_copyFrom) 31 = .ok (.getfield 43, 3) := by decide +kernel
theorem d_X0_copyFrom_34 : decode (yB m_X0_copyFrom) 34 = .ok (.putfield 43, 3) := by decide +kernel
theorem d_X0_copyFrom_37 : decode (yB m_X0_copyFrom) 37 = .ok (.aload_n 1, 1) := by decide +kernel
theorem d_X0_copyFrom_38 : decode (yB m_X0_copyFrom) 38 = .ok (.getfield 18, 3) := by decide +kernel
theorem d_X0_copyFrom_41 : decode (yB m_X0_copyFrom) 41 = .ok (.iconst 0, 1) := by decide +kernel
theorem d_X0_copyFrom_42 : decode (yB m_X0_copyFrom) 42 = .ok (.aload_n 0, 1) := by decide +kernel
theorem d_X0_copyFrom_43 : decode (yB m_X0_copyFrom) 43 = .ok (.getfield 18, 3) := by decide +kernel
theorem d_X0_copyFrom_46 : decode (yB m_X0_copyFrom) 46 = .ok (.iconst 0, 1) := by decide +kernel
theorem d_X0_copyFrom_47 : decode (yB m_X0_copyFrom) 47 = .ok (.bipush 12, 2) := by decide +kernel
theorem d_X0_copyFrom_49 : decode (yB m_X0_copyFrom) 49 = .ok (.invokestatic 46, 3) := by decide +kernel
theorem d_X0_copyFrom_52 : decode (yB m_X0_copyFrom) 52 = .ok (.aload_n 1, 1) := by decide +kernel
theorem d_X0_copyFrom_53 : decode (yB m_X0_copyFrom) 53 = .ok (.getfield 22, 3) := by decide +kernel
theorem d_X0_copyFrom_56 : decode (yB m_X0_copyFrom) 56 = .ok (.iconst 0, 1) := by decide +kernel
theorem d_X0_copyFrom_57 : decode (yB m_X0_copyFrom) 57 = .ok (.aload_n 0, 1) := by decide +kernel
theorem d_X0_copyFrom_58 : decode (yB m_X0_copyFrom) 58 = .ok (.getfield 22, 3) := by decide +kernel
theorem d_X0_copyFrom_61 : decode (yB m_X0_copyFrom) 61 = .ok (.iconst 0, 1) := by decide +kernel
theorem d_X0_copyFrom_62 : decode (yB m_X0_copyFrom) 62 = .ok (.bipush 12, 2) := by decide +kernel
theorem d_X0_copyFrom_64 : decode (yB m_X0_copyFrom) 64 = .ok (.invokestatic 46, 3) := by decide +kernel
theorem d_X0_copyFrom_67 : decode (yB m_X0_copyFrom) 67 = .ok (.aload_n 1, 1) := by decide +kernel
theorem d_X0_copyFrom_68 : decode (yB m_X0_copyFrom) 68 = .ok (.getfield 25, 3) := by decide +kernel
theorem d_X0_copyFrom_71 : decode (yB m_X0_copyFrom) 71 = .ok (.iconst 0, 1) := by decide +kernel
theorem d_X0_copyFrom_72 : decode (yB m_X0_copyFrom) 72 = .ok (.aload_n 0, 1) := by decide +kernel
theorem d_X0_copyFrom_73 : decode (yB m_X0_copyFrom) 73 = .ok (.getfield 25, 3) := by decide +kernel
theorem d_X0_copyFrom_76 : decode (yB m_X0_copyFrom) 76 = .ok (.iconst 0, 1) := by decide +kernel
theorem d_X0_copyFrom_77 : decode (yB m_X0_copyFrom) 77 = .ok (.bipush 48, 2) := by decide +kernel
theorem d_X0_copyFrom_79 : decode (yB m_X0_copyFrom) 79 = .ok (.invokestatic 46, 3) := by decide +kernel
theorem d_X0_copyFrom_82 : decode (yB m_X0_copyFrom) 82 = .ok (.aload_n 1, 1) := by decide +kernel
theorem d_X0_copyFrom_83 : decode (yB m_X0_copyFrom) 83 = .ok (.getfield 28, 3) := by decide +kernel
theorem d_X0_copyFrom_86 : decode (yB m_X0_copyFrom) 86 = .ok (.iconst 0, 1) := by decide +kernel
theorem d_X0_copyFrom_87 : decode (yB m_X0_copyFrom) 87 = .ok (.aload_n 0, 1) := by decide +kernel
theorem d_X0_copyFrom_88 : decode (yB m_X0_copyFrom) 88 = .ok (.getfield 28, 3) := by decide +kernel
theorem d_X0_copyFrom_91 : decode (yB m_X0_copyFrom) 91 = .ok (.iconst 0, 1) := by decide +kernel
theorem d_X0_copyFrom_92 : decode (yB m_X0_copyFrom) 92 = .ok (.bipush 8, 2) := by decide +kernel
theorem d_X0_copyFrom_94 : decode (yB m_X0_copyFrom) 94 = .ok (.invokestatic 46, 3) := by decide +kernel
theorem d_X0_copyFrom_97 : decode (yB m_X0_copyFrom) 97 = .ok (.return_, 1) := by decide +kernel
def fn_X0_copyFrom (a0 : Nat) (a1 : Nat) (D : zD) : Option zD := zlet (sI D a0 0 (gI D a1 0)) fun D1 => zlet (sI D1 a0 1 (gI D1 a1 1)) fun D2 => zlet (sI D2 a0 2 (gI D2 a1 2)) fun D3 => zlet (sI D3 a0 3 (gI D3 a1 3)) fun D4 => zcp (0 : Int32) (0 : Int32) (12 : Int32) 12 12 <| zlet (sC D4 (a1 + 1) (a0 + 1) (0 : Int32).toNatClampNeg (0 : Int32).toNatClampNeg (12 : Int32).toNatClampNeg) fun D6 => zcp (0 : Int32) (0 : Int32) (12 : Int32) 12 12 <| zlet (sC D6 (a1 + 2) (a0 + 2) (0 : Int32).toNatClampNeg (0 : Int32).toNatClampNeg (12 : Int32).toNatClampNeg) fun D8 => zcp (0 : Int32) (0 : Int32) (48 : Int32) 48 48 <| zlet (sC D8 (a1 + 3) (a0 + 3) (0 : Int32).toNatClampNeg (0 : Int32).toNatClampNeg (48 : Int32).toNatClampNeg) fun D10 => zcp (0 : Int32) (0 : Int32) (8 : Int32) 8 8 <| zlet (sC D10 (a1 + 4) (a0 + 4) (0 : Int32).toNatClampNeg (0 : Int32).toNatClampNeg (8 : Int32).toNatClampNeg) fun D12 => (some D12)
theorem s_X0_copyFrom {X : zX} {Sh : zSh} {d : Nat} (hst : (zl X).stackTraces = false) (h0 : zSh0 Sh) (hd : 5 ≤ d) {a0 : Nat} {a1 : Nat} (h_a0 : a0 ∈ zI_0) (h_a1 : a1 ∈ zI_0) {D : zD} : Sd X m_X0_copyFrom d [.ref a0, .ref a1] (Sh, D) ((oV Sh) (fn_X0_copyFrom a0 a1 D)) := by
  obtain ⟨d, rfl⟩ : ∃ e, d = e + 1 := ⟨d - 1, by omega⟩
  replace hd : 4 ≤ d := by omega
  refine z_body ck_X0_copyFrom rfl (Nat.le_of_ble_eq_true rfl) rfl hst ?_
  rw [fn_X0_copyFrom]
  show Rn X m_X0_copyFrom (d + 1) 0 [(0, .ref a0), (1, .ref a1)] [] (Sh, D) _
  refine r_aload_n (pc := 0) 1 d_X0_copyFrom_0 rfl rfl ?_
  refine r_nonnull (pc := 1) 5 d_X0_copyFrom_1 (by decide) ?_
  refine r_aload_n (pc := 5) 0 d_X0_copyFrom_5 rfl rfl ?_
  refine r_aload_n (pc := 6) 1 d_X0_copyFrom_6 rfl rfl ?_
  refine q_gI (pc := 7) g_X0_9 (LK_0 h0 h_a1) rfl d_X0_copyFrom_7 ?_
  refine r_putI (pc := 10) p_X0_9 (LK_0 h0 h_a0) rfl (Or.inl rfl) d_X0_copyFrom_10 ?_
  refine r_letD (f := (oV Sh)) (fun D1 => ?_)
  refine r_aload_n (pc := 13) 0 d_X0_copyFrom_13 rfl rfl ?_
  refine r_aload_n (pc := 14) 1 d_X0_copyFrom_14 rfl rfl ?_
  refine q_gI (pc := 15) g_X0_15 (LK_0 h0 h_a1) rfl d_X0_copyFrom_15 ?_
  refine r_putI (pc := 18) p_X0_15 (LK_0 h0 h_a0) rfl (Or.inl rfl) d_X0_copyFrom_18 ?_
  refine r_letD (f := (oV Sh)) (fun D2 => ?_)
  refine r_aload_n (pc := 21) 0 d_X0_copyFrom_21 rfl rfl ?_
  refine r_aload_n (pc := 22) 1 d_X0_copyFrom_22 rfl rfl ?_
  refine q_gI (pc := 23) g_X0_40 (LK_0 h0 h_a1) rfl d_X0_copyFrom_23 ?_
  refine r_putI (pc := 26) p_X0_40 (LK_0 h0 h_a0) rfl (Or.inl rfl) d_X0_copyFrom_26 ?_
  refine r_letD (f := (oV Sh)) (fun D3 => ?_)
  refine r_aload_n (pc := 29) 0 d_X0_copyFrom_29 rfl rfl ?_
  refine r_aload_n (pc := 30) 1 d_X0_copyFrom_30 rfl rfl ?_
  refine q_gI (pc := 31) g_X0_43 (LK_0 h0 h_a1) rfl d_X0_copyFrom_31 ?_
  refine r_putI (pc := 34) p_X0_43 (LK_0 h0 h_a0) rfl (Or.inl rfl) d_X0_copyFrom_34 ?_
  refine r_letD (f := (oV Sh)) (fun D4 => ?_)
  refine r_aload_n (pc := 37) 1 d_X0_copyFrom_37 rfl rfl ?_
  refine r_getR (pc := 38) g_X0_18 (LK_0 h0 h_a1) rfl (LR_0_4 h0 h_a1) d_X0_copyFrom_38 ?_
  refine r_iconst (pc := 41) (0 : Int32) d_X0_copyFrom_41 rfl ?_
  refine r_aload_n (pc := 42) 0 d_X0_copyFrom_42 rfl rfl ?_
  refine r_getR (pc := 43) g_X0_18 (LK_0 h0 h_a0) rfl (LR_0_4 h0 h_a0) d_X0_copyFrom_43 ?_
  refine r_iconst (pc := 46) (0 : Int32) d_X0_copyFrom_46 rfl ?_
  refine r_bipush (pc := 47) (12 : Int32) d_X0_copyFrom_47 rfl ?_
  refine r_cp (f := (oV Sh)) rfl (fun hc5 => ?_)
  refine q_acopy (pc := 49) ml_X0_46 (LA_0_4 h0 h_a1) (LA_0_4 h0 h_a0) h0.2.2 hc5 (by omega) (Nat.le_of_ble_eq_true rfl) d_X0_copyFrom_49 ?_
  refine r_letD (f := (oV Sh)) (fun D6 => ?_)
  refine r_aload_n (pc := 52) 1 d_X0_copyFrom_52 rfl rfl ?_
  refine r_getR (pc := 53) g_X0_22 (LK_0 h0 h_a1) rfl (LR_0_5 h0 h_a1) d_X0_copyFrom_53 ?_
  refine r_iconst (pc := 56) (0 : Int32) d_X0_copyFrom_56 rfl ?_
  refine r_aload_n (pc := 57) 0 d_X0_copyFrom_57 rfl rfl ?_
  refine r_getR (pc := 58) g_X0_22 (LK_0 h0 h_a0) rfl (LR_0_5 h0 h_a0) d_X0_copyFrom_58 ?_
  refine r_iconst (pc := 61) (0 : Int32) d_X0_copyFrom_61 rfl ?_
  refine r_bipush (pc := 62) (12 : Int32) d_X0_copyFrom_62 rfl ?_
  refine r_cp (f := (oV Sh)) rfl (fun hc7 => ?_)
  refine q_acopy (pc := 64) ml_X0_46 (LA_0_5 h0 h_a1) (LA_0_5 h0 h_a0) h0.2.2 hc7 (by omega) (Nat.le_of_ble_eq_true rfl) d_X0_copyFrom_64 ?_
  refine r_letD (f := (oV Sh)) (fun D8 => ?_)
  refine r_aload_n (pc := 67) 1 d_X0_copyFrom_67 rfl rfl ?_
  refine r_getR (pc := 68) g_X0_25 (LK_0 h0 h_a1) rfl (LR_0_6 h0 h_a1) d_X0_copyFrom_68 ?_
  refine r_iconst (pc := 71) (0 : Int32) d_X0_copyFrom_71 rfl ?_
  refine r_aload_n (pc := 72) 0 d_X0_copyFrom_72 rfl rfl ?_
  refine r_getR (pc := 73) g_X0_25 (LK_0 h0 h_a0) rfl (LR_0_6 h0 h_a0) d_X0_copyFrom_73 ?_
  refine r_iconst (pc := 76) (0 : Int32) d_X0_copyFrom_76 rfl ?_
  refine r_bipush (pc := 77) (48 : Int32) d_X0_copyFrom_77 rfl ?_
  refine r_cp (f := (oV Sh)) rfl (fun hc9 => ?_)
  refine q_acopy (pc := 79) ml_X0_46 (LA_0_6 h0 h_a1) (LA_0_6 h0 h_a0) h0.2.2 hc9 (by omega) (Nat.le_of_ble_eq_true rfl) d_X0_copyFrom_79 ?_
  refine r_letD (f := (oV Sh)) (fun D10 => ?_)
  refine r_aload_n (pc := 82) 1 d_X0_copyFrom_82 rfl rfl ?_
  refine r_getR (pc := 83) g_X0_28 (LK_0 h0 h_a1) rfl (LR_0_7 h0 h_a1) d_X0_copyFrom_83 ?_
  refine r_iconst (pc := 86) (0 : Int32) d_X0_copyFrom_86 rfl ?_
  refine r_aload_n (pc := 87) 0 d_X0_copyFrom_87 rfl rfl ?_
  refine r_getR (pc := 88) g_X0_28 (LK_0 h0 h_a0) rfl (LR_0_7 h0 h_a0) d_X0_copyFrom_88 ?_
  refine r_iconst (pc := 91) (0 : Int32) d_X0_copyFrom_91 rfl ?_
  refine r_bipush (pc := 92) (8 : Int32) d_X0_copyFrom_92 rfl ?_
  refine r_cp (f := (oV Sh)) rfl (fun hc11 => ?_)
  refine q_acopy (pc := 94) ml_X0_46 (LA_0_7 h0 h_a1) (LA_0_7 h0 h_a0) h0.2.2 hc11 (by omega) (Nat.le_of_ble_eq_true rfl) d_X0_copyFrom_94 ?_
  refine r_letD (f := (oV Sh)) (fun D12 => ?_)
  exact r_vret (pc := 97) rfl d_X0_copyFrom_97
/-! CoveredSigns$Alphabet.cells -/
theorem d_X0_cells_0 : decode (yB m_X0_cells) 0 = .ok (.aload_n 0, 1) := by decide +kernel
theorem d_X0_cells_1 : decode (yB m_X0_cells) 1 = .ok (.getfield 9, 3) := by decide +kernel
theorem d_X0_cells_4 : decode (yB m_X0_cells) 4 = .ok (.aload_n 0, 1) := by decide +kernel
theorem d_X0_cells_5 : decode (yB m_X0_cells) 5 = .ok (.getfield 15, 3) := by decide +kernel
theorem d_X0_cells_8 : decode (yB m_X0_cells) 8 = .ok (.imul, 1) := by decide +kernel
theorem d_X0_cells_9 : decode (yB m_X0_cells) 9 = .ok (.ireturn, 1) := by decide +kernel
def fn_X0_cells (a0 : Nat) (D : zD) : Option Int32 := (some ((gI D a0 0) * (gI D a0 1)))
theorem s_X0_cells {X : zX} {Sh : zSh} {d : Nat} (hst : (zl X).stackTraces = false) (h0 : zSh0 Sh) (hd : 1 ≤ d) {a0 : Nat} (h_a0 : a0 ∈ zI_0) {D : zD} : Sd X m_X0_cells d [.ref a0] (Sh, D) ((oP Sh D) (fn_X0_cells a0 D)) := by
  obtain ⟨d, rfl⟩ : ∃ e, d = e + 1 := ⟨d - 1, by omega⟩
  replace hd : 0 ≤ d := by omega
  refine z_body ck_X0_cells rfl (Nat.le_of_ble_eq_true rfl) rfl hst ?_
  rw [fn_X0_cells]
  show Rn X m_X0_cells (d + 1) 0 [(0, .ref a0)] [] (Sh, D) _
  refine r_aload_n (pc := 0) 0 d_X0_cells_0 rfl rfl ?_
  refine q_gI (pc := 1) g_X0_9 (LK_0 h0 h_a0) rfl d_X0_cells_1 ?_
  refine r_aload_n (pc := 4) 0 d_X0_cells_4 rfl rfl ?_
  refine q_gI (pc := 5) g_X0_15 (LK_0 h0 h_a0) rfl d_X0_cells_5 ?_
  refine r_imul (pc := 8) d_X0_cells_8 ?_
  exact r_iret (pc := 9) rfl d_X0_cells_9
/-! CoveredSigns$Alphabet.board -/
theorem d_X0_board_0 : decode (yB m_X0_board) 0 = .ok (.iconst 1, 1) := by decide +kernel
theorem d_X0_board_1 : decode (yB m_X0_board) 1 = .ok (.aload_n 0, 1) := by decide +kernel
theorem d_X0_board_2 : decode (yB m_X0_board) 2 = .ok (.invokevirtual 52, 3) := by decide +kernel
theorem d_X0_board_5 : decode (yB m_X0_board) 5 = .ok (.ishl, 1) := by decide +kernel
theorem d_X0_board_6 : decode (yB m_X0_board) 6 = .ok (.iconst 1, 1) := by decide +kernel
theorem d_X0_board_7 : decode (yB m_X0_board) 7 = .ok (.isub, 1) := by decide +kernel
theorem d_X0_board_8 : decode (yB m_X0_board) 8 = .ok (.ireturn, 1) := by decide +kernel
def fn_X0_board (a0 : Nat) (D : zD) : Option Int32 := (fn_X0_cells a0 D).bind fun x1 => (some (((1 : Int32) <<< (x1 &&& 31)) - (1 : Int32)))
theorem s_X0_board {X : zX} {Sh : zSh} {d : Nat} (hst : (zl X).stackTraces = false) (h0 : zSh0 Sh) (hd : 2 ≤ d) {a0 : Nat} (h_a0 : a0 ∈ zI_0) {D : zD} : Sd X m_X0_board d [.ref a0] (Sh, D) ((oP Sh D) (fn_X0_board a0 D)) := by
  obtain ⟨d, rfl⟩ : ∃ e, d = e + 1 := ⟨d - 1, by omega⟩
  replace hd : 1 ≤ d := by omega
  refine z_body ck_X0_board rfl (Nat.le_of_ble_eq_true rfl) rfl hst ?_
  rw [fn_X0_board]
  show Rn X m_X0_board (d + 1) 0 [(0, .ref a0)] [] (Sh, D) _
  refine r_iconst (pc := 0) (1 : Int32) d_X0_board_0 rfl ?_
  refine r_aload_n (pc := 1) 0 d_X0_board_1 rfl rfl ?_
  refine q_cP (f := (oP Sh D)) (av := [.ref a0]) (st := [.int (1 : Int32)]) (z_runV ck_X0_cells rfl ml_X0_52 ci_X0_cells cv_X0_cells (LK_0 h0 h_a0) (ci := 0) rfl rfl (Nat.le_of_ble_eq_true rfl) d_X0_board_2) (s_X0_cells hst h0 (by omega) h_a0) kp_P (fun x1 _ => ?_)
  refine r_ishl (pc := 5) d_X0_board_5 ?_
  refine r_iconst (pc := 6) (1 : Int32) d_X0_board_6 rfl ?_
  refine r_isub (pc := 7) d_X0_board_7 ?_
  exact r_iret (pc := 8) rfl d_X0_board_8
/-! CoveredSigns$Alphabet.has -/
theorem d_X0_has_0 : decode (yB m_X0_has) 0 = .ok (.iload_n 1, 1) := by decide +kernel
theorem d_X0_has_1 : decode (yB m_X0_has) 1 = .ok (.ifCond .lt 21, 3) := by decide +kernel
theorem d_X0_has_4 : decode (yB m_X0_has) 4 = .ok (.iload_n 1, 1) := by decide +kernel
theorem d_X0_has_5 : decode (yB m_X0_has) 5 = .ok (.aload_n 0, 1) := by decide +kernel
theorem d_X0_has_6 : decode (yB m_X0_has) 6 = .ok (.getfield 40, 3) := by decide +kernel
theorem d_X0_has_9 : decode (yB m_X0_has) 9 = .ok (.if_icmp .ge 13, 3) := by decide +kernel
theorem d_X0_has_12 : decode (yB m_X0_has) 12 = .ok (.iload_n 1, 1) := by decide +kernel
theorem d_X0_has_13 : decode (yB m_X0_has) 13 = .ok (.bipush 12, 2) := by decide +kernel
theorem d_X0_has_15 : decode (yB m_X0_has) 15 = .ok (.if_icmp .ge 7, 3) := by decide +kernel
theorem d_X0_has_18 : decode (yB m_X0_has) 18 = .ok (.iconst 1, 1) := by decide +kernel
theorem d_X0_has_19 : decode (yB m_X0_has) 19 = .ok (.goto 4, 3) := by decide +kernel
theorem d_X0_has_22 : decode (yB m_X0_has) 22 = .ok (.iconst 0, 1) := by decide +kernel
theorem d_X0_has_23 : decode (yB m_X0_has) 23 = .ok (.ireturn, 1) := by decide +kernel
def fn_X0_has (a0 : Nat) (v1 : Int32) (D : zD) : Option Int32 := (if v1 < 0 then ((some (0 : Int32))) else ((if (gI D a0 2) ≤ v1 then ((some (0 : Int32))) else ((if (12 : Int32) ≤ v1 then ((some (0 : Int32))) else ((some (1 : Int32))))))))
theorem s_X0_has {X : zX} {Sh : zSh} {d : Nat} (hst : (zl X).stackTraces = false) (h0 : zSh0 Sh) (hd : 1 ≤ d) {a0 : Nat} {v1 : Int32} (h_a0 : a0 ∈ zI_0) {D : zD} : Sd X m_X0_has d [.ref a0, .int v1] (Sh, D) ((oP Sh D) (fn_X0_has a0 v1 D)) := by
  obtain ⟨d, rfl⟩ : ∃ e, d = e + 1 := ⟨d - 1, by omega⟩
  replace hd : 0 ≤ d := by omega
  refine z_body ck_X0_has rfl (Nat.le_of_ble_eq_true rfl) rfl hst ?_
  rw [fn_X0_has]
  show Rn X m_X0_has (d + 1) 0 [(0, .ref a0), (1, .int v1)] [] (Sh, D) _
  refine r_iload_n (pc := 0) 1 d_X0_has_0 rfl rfl ?_
  refine r_if_lt (f := (oP Sh D)) (pc := 1) 22 d_X0_has_1 (by decide) (fun c1 => ?_) (fun c1 => ?_)
  · refine r_iconst (pc := 22) (0 : Int32) d_X0_has_22 rfl ?_
    exact r_zret (pc := 23) rfl (by decide) d_X0_has_23
  · refine r_iload_n (pc := 4) 1 d_X0_has_4 rfl rfl ?_
    refine r_aload_n (pc := 5) 0 d_X0_has_5 rfl rfl ?_
    refine q_gI (pc := 6) g_X0_40 (LK_0 h0 h_a0) rfl d_X0_has_6 ?_
    refine r_icmp_ge (f := (oP Sh D)) (pc := 9) 22 d_X0_has_9 (by decide) (fun c2 => ?_) (fun c2 => ?_)
    · refine r_iconst (pc := 22) (0 : Int32) d_X0_has_22 rfl ?_
      exact r_zret (pc := 23) rfl (by decide) d_X0_has_23
    · refine r_iload_n (pc := 12) 1 d_X0_has_12 rfl rfl ?_
      refine r_bipush (pc := 13) (12 : Int32) d_X0_has_13 rfl ?_
      refine r_icmp_ge (f := (oP Sh D)) (pc := 15) 22 d_X0_has_15 (by decide) (fun c3 => ?_) (fun c3 => ?_)
      · refine r_iconst (pc := 22) (0 : Int32) d_X0_has_22 rfl ?_
        exact r_zret (pc := 23) rfl (by decide) d_X0_has_23
      · refine r_iconst (pc := 18) (1 : Int32) d_X0_has_18 rfl ?_
        refine r_goto (pc := 19) 23 d_X0_has_19 (by decide) ?_
        exact r_zret (pc := 23) rfl (by decide) d_X0_has_23
/-! CoveredSigns$Alphabet.paintOf -/
theorem d_X0_paintOf_0 : decode (yB m_X0_paintOf) 0 = .ok (.aload_n 0, 1) := by decide +kernel
theorem d_X0_paintOf_1 : decode (yB m_X0_paintOf) 1 = .ok (.iload_n 1, 1) := by decide +kernel
theorem d_X0_paintOf_2 : decode (yB m_X0_paintOf) 2 = .ok (.invokevirtual 56, 3) := by decide +kernel
theorem d_X0_paintOf_5 : decode (yB m_X0_paintOf) 5 = .ok (.ifCond .eq 12, 3) := by decide +kernel
theorem d_X0_paintOf_8 : decode (yB m_X0_paintOf) 8 = .ok (.aload_n 0, 1) := by decide +kernel
theorem d_X0_paintOf_9 : decode (yB m_X0_paintOf) 9 = .ok (.getfield 18, 3) := by decide +kernel
theorem d_X0_paintOf_12 : decode (yB m_X0_paintOf) 12 = .ok (.iload_n 1, 1) := by decide +kernel
theorem d_X0_paintOf_13 : decode (yB m_X0_paintOf) 13 = .ok (.iaload, 1) := by decide +kernel
theorem d_X0_paintOf_14 : decode (yB m_X0_paintOf) 14 = .ok (.goto 4, 3) := by decide +kernel
theorem d_X0_paintOf_17 : decode (yB m_X0_paintOf) 17 = .ok (.iconst 0, 1) := by decide +kernel
theorem d_X0_paintOf_18 : decode (yB m_X0_paintOf) 18 = .ok (.ireturn, 1) := by decide +kernel
def fn_X0_paintOf (a0 : Nat) (v1 : Int32) (D : zD) : Option Int32 := (fn_X0_has a0 v1 D).bind fun x1 => (if x1 = 0 then ((some (0 : Int32))) else (zck v1 12 <| (some (gI D (a0 + 1) v1.toNatClampNeg))))
theorem s_X0_paintOf {X : zX} {Sh : zSh} {d : Nat} (hst : (zl X).stackTraces = false) (h0 : zSh0 Sh) (hd : 2 ≤ d) {a0 : Nat} {v1 : Int32} (h_a0 : a0 ∈ zI_0) {D : zD} : Sd X m_X0_paintOf d [.ref a0, .int v1] (Sh, D) ((oP Sh D) (fn_X0_paintOf a0 v1 D)) := by
  obtain ⟨d, rfl⟩ : ∃ e, d = e + 1 := ⟨d - 1, by omega⟩
  replace hd : 1 ≤ d := by omega
  refine z_body ck_X0_paintOf rfl (Nat.le_of_ble_eq_true rfl) rfl hst ?_
  rw [fn_X0_paintOf]
  show Rn X m_X0_paintOf (d + 1) 0 [(0, .ref a0), (1, .int v1)] [] (Sh, D) _
  refine r_aload_n (pc := 0) 0 d_X0_paintOf_0 rfl rfl ?_
  refine r_iload_n (pc := 1) 1 d_X0_paintOf_1 rfl rfl ?_
  refine q_cP (f := (oP Sh D)) (av := [.ref a0, .int v1]) (st := []) (z_runV ck_X0_has rfl ml_X0_56 ci_X0_has cv_X0_has (LK_0 h0 h_a0) (ci := 0) rfl rfl (Nat.le_of_ble_eq_true rfl) d_X0_paintOf_2) (s_X0_has hst h0 (by omega) h_a0) kp_P (fun x1 _ => ?_)
  refine r_if_eq (f := (oP Sh D)) (pc := 5) 17 d_X0_paintOf_5 (by decide) (fun c2 => ?_) (fun c2 => ?_)
  · refine r_iconst (pc := 17) (0 : Int32) d_X0_paintOf_17 rfl ?_
    exact r_iret (pc := 18) rfl d_X0_paintOf_18
  · refine r_aload_n (pc := 8) 0 d_X0_paintOf_8 rfl rfl ?_
    refine r_getR (pc := 9) g_X0_18 (LK_0 h0 h_a0) rfl (LR_0_4 h0 h_a0) d_X0_paintOf_9 ?_
    refine r_iload_n (pc := 12) 1 d_X0_paintOf_12 rfl rfl ?_
    refine r_ck (f := (oP Sh D)) rfl (fun hc3 => ?_)
    refine q_iald (pc := 13) (j := v1.toNatClampNeg) (LA_0_4 h0 h_a0) hc3 rfl d_X0_paintOf_13 ?_
    refine r_goto (pc := 14) 18 d_X0_paintOf_14 (by decide) ?_
    exact r_iret (pc := 18) rfl d_X0_paintOf_18
/-! CoveredSigns$Alphabet.familyOf -/
theorem d_X0_familyOf_0 : decode (yB m_X0_familyOf) 0 = .ok (.aload_n 0, 1) := by decide +kernel
theorem d_X0_familyOf_1 : decode (yB m_X0_familyOf) 1 = .ok (.iload_n 1, 1) := by decide +kernel
theorem d_X0_familyOf_2 : decode (yB m_X0_familyOf) 2 = .ok (.invokevirtual 56, 3) := by decide +kernel
theorem d_X0_familyOf_5 : decode (yB m_X0_familyOf) 5 = .ok (.ifCond .eq 12, 3) := by decide +kernel
theorem d_X0_familyOf_8 : decode (yB m_X0_familyOf) 8 = .ok (.aload_n 0, 1) := by decide +kernel
theorem d_X0_familyOf_9 : decode (yB m_X0_familyOf) 9 = .ok (.getfield 22, 3) := by decide +kernel
theorem d_X0_familyOf_12 : decode (yB m_X0_familyOf) 12 = .ok (.iload_n 1, 1) := by decide +kernel
theorem d_X0_familyOf_13 : decode (yB m_X0_familyOf) 13 = .ok (.iaload, 1) := by decide +kernel
theorem d_X0_familyOf_14 : decode (yB m_X0_familyOf) 14 = .ok (.goto 4, 3) := by decide +kernel
theorem d_X0_familyOf_17 : decode (yB m_X0_familyOf) 17 = .ok (.iconst (-1), 1) := by decide +kernel
theorem d_X0_familyOf_18 : decode (yB m_X0_familyOf) 18 = .ok (.ireturn, 1) := by decide +kernel
def fn_X0_familyOf (a0 : Nat) (v1 : Int32) (D : zD) : Option Int32 := (fn_X0_has a0 v1 D).bind fun x1 => (if x1 = 0 then ((some (-1 : Int32))) else (zck v1 12 <| (some (gI D (a0 + 2) v1.toNatClampNeg))))
theorem s_X0_familyOf {X : zX} {Sh : zSh} {d : Nat} (hst : (zl X).stackTraces = false) (h0 : zSh0 Sh) (hd : 2 ≤ d) {a0 : Nat} {v1 : Int32} (h_a0 : a0 ∈ zI_0) {D : zD} : Sd X m_X0_familyOf d [.ref a0, .int v1] (Sh, D) ((oP Sh D) (fn_X0_familyOf a0 v1 D)) := by
  obtain ⟨d, rfl⟩ : ∃ e, d = e + 1 := ⟨d - 1, by omega⟩
  replace hd : 1 ≤ d := by omega
  refine z_body ck_X0_familyOf rfl (Nat.le_of_ble_eq_true rfl) rfl hst ?_
  rw [fn_X0_familyOf]
  show Rn X m_X0_familyOf (d + 1) 0 [(0, .ref a0), (1, .int v1)] [] (Sh, D) _
  refine r_aload_n (pc := 0) 0 d_X0_familyOf_0 rfl rfl ?_
  refine r_iload_n (pc := 1) 1 d_X0_familyOf_1 rfl rfl ?_
  refine q_cP (f := (oP Sh D)) (av := [.ref a0, .int v1]) (st := []) (z_runV ck_X0_has rfl ml_X0_56 ci_X0_has cv_X0_has (LK_0 h0 h_a0) (ci := 0) rfl rfl (Nat.le_of_ble_eq_true rfl) d_X0_familyOf_2) (s_X0_has hst h0 (by omega) h_a0) kp_P (fun x1 _ => ?_)
  refine r_if_eq (f := (oP Sh D)) (pc := 5) 17 d_X0_familyOf_5 (by decide) (fun c2 => ?_) (fun c2 => ?_)
  · refine r_iconst (pc := 17) (-1 : Int32) d_X0_familyOf_17 rfl ?_
    exact r_iret (pc := 18) rfl d_X0_familyOf_18
  · refine r_aload_n (pc := 8) 0 d_X0_familyOf_8 rfl rfl ?_
    refine r_getR (pc := 9) g_X0_22 (LK_0 h0 h_a0) rfl (LR_0_5 h0 h_a0) d_X0_familyOf_9 ?_
    refine r_iload_n (pc := 12) 1 d_X0_familyOf_12 rfl rfl ?_
    refine r_ck (f := (oP Sh D)) rfl (fun hc3 => ?_)
    refine q_iald (pc := 13) (j := v1.toNatClampNeg) (LA_0_5 h0 h_a0) hc3 rfl d_X0_familyOf_13 ?_
    refine r_goto (pc := 14) 18 d_X0_familyOf_14 (by decide) ?_
    exact r_iret (pc := 18) rfl d_X0_familyOf_18
/-! CoveredSigns$Alphabet.lengthOf -/
theorem d_X0_lengthOf_0 : decode (yB m_X0_lengthOf) 0 = .ok (.iload_n 1, 1) := by decide +kernel
theorem d_X0_lengthOf_1 : decode (yB m_X0_lengthOf) 1 = .ok (.ifCond .lt 26, 3) := by decide +kernel
theorem d_X0_lengthOf_4 : decode (yB m_X0_lengthOf) 4 = .ok (.iload_n 1, 1) := by decide +kernel
theorem d_X0_lengthOf_5 : decode (yB m_X0_lengthOf) 5 = .ok (.aload_n 0, 1) := by decide +kernel
theorem d_X0_lengthOf_6 : decode (yB m_X0_lengthOf) 6 = .ok (.getfield 43, 3) := by decide +kernel
theorem d_X0_lengthOf_9 : decode (yB m_X0_lengthOf) 9 = .ok (.if_icmp .ge 18, 3) := by decide +kernel
theorem d_X0_lengthOf_12 : decode (yB m_X0_lengthOf) 12 = .ok (.iload_n 1, 1) := by decide +kernel
theorem d_X0_lengthOf_13 : decode (yB m_X0_lengthOf) 13 = .ok (.bipush 8, 2) := by decide +kernel
theorem d_X0_lengthOf_15 : decode (yB m_X0_lengthOf) 15 = .ok (.if_icmp .ge 12, 3) := by decide +kernel
theorem d_X0_lengthOf_18 : decode (yB m_X0_lengthOf) 18 = .ok (.aload_n 0, 1) := by decide +kernel
theorem d_X0_lengthOf_19 : decode (yB m_X0_lengthOf) 19 = .ok (.getfield 28, 3) := by decide +kernel
theorem d_X0_lengthOf_22 : decode (yB m_X0_lengthOf) 22 = .ok (.iload_n 1, 1) := by decide +kernel
theorem d_X0_lengthOf_23 : decode (yB m_X0_lengthOf) 23 = .ok (.iaload, 1) := by decide +kernel
theorem d_X0_lengthOf_24 : decode (yB m_X0_lengthOf) 24 = .ok (.goto 4, 3) := by decide +kernel
theorem d_X0_lengthOf_27 : decode (yB m_X0_lengthOf) 27 = .ok (.iconst 0, 1) := by decide +kernel
theorem d_X0_lengthOf_28 : decode (yB m_X0_lengthOf) 28 = .ok (.ireturn, 1) := by decide +kernel
def fn_X0_lengthOf (a0 : Nat) (v1 : Int32) (D : zD) : Option Int32 := (if v1 < 0 then ((some (0 : Int32))) else ((if (gI D a0 3) ≤ v1 then ((some (0 : Int32))) else ((if (8 : Int32) ≤ v1 then ((some (0 : Int32))) else (zck v1 8 <| (some (gI D (a0 + 4) v1.toNatClampNeg))))))))
theorem s_X0_lengthOf {X : zX} {Sh : zSh} {d : Nat} (hst : (zl X).stackTraces = false) (h0 : zSh0 Sh) (hd : 1 ≤ d) {a0 : Nat} {v1 : Int32} (h_a0 : a0 ∈ zI_0) {D : zD} : Sd X m_X0_lengthOf d [.ref a0, .int v1] (Sh, D) ((oP Sh D) (fn_X0_lengthOf a0 v1 D)) := by
  obtain ⟨d, rfl⟩ : ∃ e, d = e + 1 := ⟨d - 1, by omega⟩
  replace hd : 0 ≤ d := by omega
  refine z_body ck_X0_lengthOf rfl (Nat.le_of_ble_eq_true rfl) rfl hst ?_
  rw [fn_X0_lengthOf]
  show Rn X m_X0_lengthOf (d + 1) 0 [(0, .ref a0), (1, .int v1)] [] (Sh, D) _
  refine r_iload_n (pc := 0) 1 d_X0_lengthOf_0 rfl rfl ?_
  refine r_if_lt (f := (oP Sh D)) (pc := 1) 27 d_X0_lengthOf_1 (by decide) (fun c1 => ?_) (fun c1 => ?_)
  · refine r_iconst (pc := 27) (0 : Int32) d_X0_lengthOf_27 rfl ?_
    exact r_iret (pc := 28) rfl d_X0_lengthOf_28
  · refine r_iload_n (pc := 4) 1 d_X0_lengthOf_4 rfl rfl ?_
    refine r_aload_n (pc := 5) 0 d_X0_lengthOf_5 rfl rfl ?_
    refine q_gI (pc := 6) g_X0_43 (LK_0 h0 h_a0) rfl d_X0_lengthOf_6 ?_
    refine r_icmp_ge (f := (oP Sh D)) (pc := 9) 27 d_X0_lengthOf_9 (by decide) (fun c2 => ?_) (fun c2 => ?_)
    · refine r_iconst (pc := 27) (0 : Int32) d_X0_lengthOf_27 rfl ?_
      exact r_iret (pc := 28) rfl d_X0_lengthOf_28
    · refine r_iload_n (pc := 12) 1 d_X0_lengthOf_12 rfl rfl ?_
      refine r_bipush (pc := 13) (8 : Int32) d_X0_lengthOf_13 rfl ?_
      refine r_icmp_ge (f := (oP Sh D)) (pc := 15) 27 d_X0_lengthOf_15 (by decide) (fun c3 => ?_) (fun c3 => ?_)
      · refine r_iconst (pc := 27) (0 : Int32) d_X0_lengthOf_27 rfl ?_
        exact r_iret (pc := 28) rfl d_X0_lengthOf_28
      · refine r_aload_n (pc := 18) 0 d_X0_lengthOf_18 rfl rfl ?_
        refine r_getR (pc := 19) g_X0_28 (LK_0 h0 h_a0) rfl (LR_0_7 h0 h_a0) d_X0_lengthOf_19 ?_
        refine r_iload_n (pc := 22) 1 d_X0_lengthOf_22 rfl rfl ?_
        refine r_ck (f := (oP Sh D)) rfl (fun hc4 => ?_)
        refine q_iald (pc := 23) (j := v1.toNatClampNeg) (LA_0_7 h0 h_a0) hc4 rfl d_X0_lengthOf_23 ?_
        refine r_goto (pc := 24) 28 d_X0_lengthOf_24 (by decide) ?_
        exact r_iret (pc := 28) rfl d_X0_lengthOf_28
/-! CoveredSigns$Alphabet.letterOf -/
theorem d_X0_letterOf_0 : decode (yB m_X0_letterOf) 0 = .ok (.iload_n 2, 1) := by decide +kernel
theorem d_X0_letterOf_1 : decode (yB m_X0_letterOf) 1 = .ok (.ifCond .lt 18, 3) := by decide +kernel
theorem d_X0_letterOf_4 : decode (yB m_X0_letterOf) 4 = .ok (.iload_n 2, 1) := by decide +kernel
theorem d_X0_letterOf_5 : decode (yB m_X0_letterOf) 5 = .ok (.aload_n 0, 1) := by decide +kernel
theorem d_X0_letterOf_6 : decode (yB m_X0_letterOf) 6 = .ok (.iload_n 1, 1) := by decide +kernel
theorem d_X0_letterOf_7 : decode (yB m_X0_letterOf) 7 = .ok (.invokevirtual 60, 3) := by decide +kernel
theorem d_X0_letterOf_10 : decode (yB m_X0_letterOf) 10 = .ok (.if_icmp .ge 9, 3) := by decide +kernel
theorem d_X0_letterOf_13 : decode (yB m_X0_letterOf) 13 = .ok (.iload_n 2, 1) := by decide +kernel
theorem d_X0_letterOf_14 : decode (yB m_X0_letterOf) 14 = .ok (.bipush 6, 2) := by decide +kernel
theorem d_X0_letterOf_16 : decode (yB m_X0_letterOf) 16 = .ok (.if_icmp .lt 5, 3) := by decide +kernel
theorem d_X0_letterOf_19 : decode (yB m_X0_letterOf) 19 = .ok (.iconst (-1), 1) := by decide +kernel
theorem d_X0_letterOf_20 : decode (yB m_X0_letterOf) 20 = .ok (.ireturn, 1) := by decide +kernel
theorem d_X0_letterOf_21 : decode (yB m_X0_letterOf) 21 = .ok (.aload_n 0, 1) := by decide +kernel
theorem d_X0_letterOf_22 : decode (yB m_X0_letterOf) 22 = .ok (.getfield 25, 3) := by decide +kernel
theorem d_X0_letterOf_25 : decode (yB m_X0_letterOf) 25 = .ok (.iload_n 1, 1) := by decide +kernel
theorem d_X0_letterOf_26 : decode (yB m_X0_letterOf) 26 = .ok (.bipush 6, 2) := by decide +kernel
theorem d_X0_letterOf_28 : decode (yB m_X0_letterOf) 28 = .ok (.imul, 1) := by decide +kernel
theorem d_X0_letterOf_29 : decode (yB m_X0_letterOf) 29 = .ok (.iload_n 2, 1) := by decide +kernel
theorem d_X0_letterOf_30 : decode (yB m_X0_letterOf) 30 = .ok (.iadd, 1) := by decide +kernel
theorem d_X0_letterOf_31 : decode (yB m_X0_letterOf) 31 = .ok (.iaload, 1) := by decide +kernel
theorem d_X0_letterOf_32 : decode (yB m_X0_letterOf) 32 = .ok (.ireturn, 1) := by decide +kernel
def fn_X0_letterOf (a0 : Nat) (v1 : Int32) (v2 : Int32) (D : zD) : Option Int32 := (if v2 < 0 then ((some (-1 : Int32))) else ((fn_X0_lengthOf a0 v1 D).bind fun x2 => (if x2 ≤ v2 then ((some (-1 : Int32))) else ((if v2 < (6 : Int32) then (zck ((v1 * (6 : Int32)) + v2) 48 <| (some (gI D (a0 + 3) ((v1 * (6 : Int32)) + v2).toNatClampNeg))) else ((some (-1 : Int32))))))))
theorem s_X0_letterOf {X : zX} {Sh : zSh} {d : Nat} (hst : (zl X).stackTraces = false) (h0 : zSh0 Sh) (hd : 2 ≤ d) {a0 : Nat} {v1 : Int32} {v2 : Int32} (h_a0 : a0 ∈ zI_0) {D : zD} : Sd X m_X0_letterOf d [.ref a0, .int v1, .int v2] (Sh, D) ((oP Sh D) (fn_X0_letterOf a0 v1 v2 D)) := by
  obtain ⟨d, rfl⟩ : ∃ e, d = e + 1 := ⟨d - 1, by omega⟩
  replace hd : 1 ≤ d := by omega
  refine z_body ck_X0_letterOf rfl (Nat.le_of_ble_eq_true rfl) rfl hst ?_
  rw [fn_X0_letterOf]
  show Rn X m_X0_letterOf (d + 1) 0 [(0, .ref a0), (1, .int v1), (2, .int v2)] [] (Sh, D) _
  refine r_iload_n (pc := 0) 2 d_X0_letterOf_0 rfl rfl ?_
  refine r_if_lt (f := (oP Sh D)) (pc := 1) 19 d_X0_letterOf_1 (by decide) (fun c1 => ?_) (fun c1 => ?_)
  · refine r_iconst (pc := 19) (-1 : Int32) d_X0_letterOf_19 rfl ?_
    exact r_iret (pc := 20) rfl d_X0_letterOf_20
  · refine r_iload_n (pc := 4) 2 d_X0_letterOf_4 rfl rfl ?_
    refine r_aload_n (pc := 5) 0 d_X0_letterOf_5 rfl rfl ?_
    refine r_iload_n (pc := 6) 1 d_X0_letterOf_6 rfl rfl ?_
    refine q_cP (f := (oP Sh D)) (av := [.ref a0, .int v1]) (st := [.int v2]) (z_runV ck_X0_lengthOf rfl ml_X0_60 ci_X0_lengthOf cv_X0_lengthOf (LK_0 h0 h_a0) (ci := 0) rfl rfl (Nat.le_of_ble_eq_true rfl) d_X0_letterOf_7) (s_X0_lengthOf hst h0 (by omega) h_a0) kp_P (fun x2 _ => ?_)
    refine r_icmp_ge (f := (oP Sh D)) (pc := 10) 19 d_X0_letterOf_10 (by decide) (fun c3 => ?_) (fun c3 => ?_)
    · refine r_iconst (pc := 19) (-1 : Int32) d_X0_letterOf_19 rfl ?_
      exact r_iret (pc := 20) rfl d_X0_letterOf_20
    · refine r_iload_n (pc := 13) 2 d_X0_letterOf_13 rfl rfl ?_
      refine r_bipush (pc := 14) (6 : Int32) d_X0_letterOf_14 rfl ?_
      refine r_icmp_lt (f := (oP Sh D)) (pc := 16) 21 d_X0_letterOf_16 (by decide) (fun c4 => ?_) (fun c4 => ?_)
      · refine r_aload_n (pc := 21) 0 d_X0_letterOf_21 rfl rfl ?_
        refine r_getR (pc := 22) g_X0_25 (LK_0 h0 h_a0) rfl (LR_0_6 h0 h_a0) d_X0_letterOf_22 ?_
        refine r_iload_n (pc := 25) 1 d_X0_letterOf_25 rfl rfl ?_
        refine r_bipush (pc := 26) (6 : Int32) d_X0_letterOf_26 rfl ?_
        refine r_imul (pc := 28) d_X0_letterOf_28 ?_
        refine r_iload_n (pc := 29) 2 d_X0_letterOf_29 rfl rfl ?_
        refine r_iadd (pc := 30) d_X0_letterOf_30 ?_
        refine r_ck (f := (oP Sh D)) rfl (fun hc5 => ?_)
        refine q_iald (pc := 31) (j := ((v1 * (6 : Int32)) + v2).toNatClampNeg) (LA_0_6 h0 h_a0) hc5 rfl d_X0_letterOf_31 ?_
        exact r_iret (pc := 32) rfl d_X0_letterOf_32
      · refine r_iconst (pc := 19) (-1 : Int32) d_X0_letterOf_19 rfl ?_
        exact r_iret (pc := 20) rfl d_X0_letterOf_20
/-! CoveredSigns$Alphabet.addSign -/
theorem d_X0_addSign_0 : decode (yB m_X0_addSign) 0 = .ok (.aload_n 0, 1) := by decide +kernel
theorem d_X0_addSign_1 : decode (yB m_X0_addSign) 1 = .ok (.getfield 40, 3) := by decide +kernel
theorem d_X0_addSign_4 : decode (yB m_X0_addSign) 4 = .ok (.ifCond .lt 12, 3) := by decide +kernel
theorem d_X0_addSign_7 : decode (yB m_X0_addSign) 7 = .ok (.aload_n 0, 1) := by decide +kernel
theorem d_X0_addSign_8 : decode (yB m_X0_addSign) 8 = .ok (.getfield 40, 3) := by decide +kernel
theorem d_X0_addSign_11 : decode (yB m_X0_addSign) 11 = .ok (.bipush 12, 2) := by decide +kernel
theorem d_X0_addSign_13 : decode (yB m_X0_addSign) 13 = .ok (.if_icmp .lt 5, 3) := by decide +kernel
theorem d_X0_addSign_16 : decode (yB m_X0_addSign) 16 = .ok (.iconst 0, 1) := by decide +kernel
theorem d_X0_addSign_17 : decode (yB m_X0_addSign) 17 = .ok (.ireturn, 1) := by decide +kernel
theorem d_X0_addSign_18 : decode (yB m_X0_addSign) 18 = .ok (.aload_n 0, 1) := by decide +kernel
theorem d_X0_addSign_19 : decode (yB m_X0_addSign) 19 = .ok (.getfield 18, 3) := by decide +kernel
theorem d_X0_addSign_22 : decode (yB m_X0_addSign) 22 = .ok (.aload_n 0, 1) := by decide +kernel
theorem d_X0_addSign_23 : decode (yB m_X0_addSign) 23 = .ok (.getfield 40, 3) := by decide +kernel
theorem d_X0_addSign_26 : decode (yB m_X0_addSign) 26 = .ok (.iload_n 1, 1) := by decide +kernel
theorem d_X0_addSign_27 : decode (yB m_X0_addSign) 27 = .ok (.iastore, 1) := by decide +kernel
theorem d_X0_addSign_28 : decode (yB m_X0_addSign) 28 = .ok (.aload_n 0, 1) := by decide +kernel
theorem d_X0_addSign_29 : decode (yB m_X0_addSign) 29 = .ok (.getfield 22, 3) := by decide +kernel
theorem d_X0_addSign_32 : decode (yB m_X0_addSign) 32 = .ok (.aload_n 0, 1) := by decide +kernel
theorem d_X0_addSign_33 : decode (yB m_X0_addSign) 33 = .ok (.getfield 40, 3) := by decide +kernel
theorem d_X0_addSign_36 : decode (yB m_X0_addSign) 36 = .ok (.iconst (-1), 1) := by decide +kernel
theorem d_X0_addSign_37 : decode (yB m_X0_addSign) 37 = .ok (.iastore, 1) := by decide +kernel
theorem d_X0_addSign_38 : decode (yB m_X0_addSign) 38 = .ok (.aload_n 0, 1) := by decide +kernel
theorem d_X0_addSign_39 : decode (yB m_X0_addSign) 39 = .ok (.dup, 1) := by decide +kernel
theorem d_X0_addSign_40 : decode (yB m_X0_addSign) 40 = .ok (.getfield 40, 3) := by decide +kernel
theorem d_X0_addSign_43 : decode (yB m_X0_addSign) 43 = .ok (.iconst 1, 1) := by decide +kernel
theorem d_X0_addSign_44 : decode (yB m_X0_addSign) 44 = .ok (.iadd, 1) := by decide +kernel
theorem d_X0_addSign_45 : decode (yB m_X0_addSign) 45 = .ok (.putfield 40, 3) := by decide +kernel
theorem d_X0_addSign_48 : decode (yB m_X0_addSign) 48 = .ok (.iconst 1, 1) := by decide +kernel
theorem d_X0_addSign_49 : decode (yB m_X0_addSign) 49 = .ok (.ireturn, 1) := by decide +kernel
def fn_X0_addSign (a0 : Nat) (v1 : Int32) (D : zD) : Option (Int32 × zD) := (if (gI D a0 2) < 0 then ((some ((0 : Int32), D))) else ((if (gI D a0 2) < (12 : Int32) then (zck (gI D a0 2) 12 <| zlet (sI D (a0 + 1) (gI D a0 2).toNatClampNeg v1) fun D4 => zck (gI D4 a0 2) 12 <| zlet (sI D4 (a0 + 2) (gI D4 a0 2).toNatClampNeg (-1 : Int32)) fun D6 => zlet (sI D6 a0 2 ((gI D6 a0 2) + (1 : Int32))) fun D7 => (some ((1 : Int32), D7))) else ((some ((0 : Int32), D))))))
theorem s_X0_addSign {X : zX} {Sh : zSh} {d : Nat} (hst : (zl X).stackTraces = false) (h0 : zSh0 Sh) (hd : 1 ≤ d) {a0 : Nat} {v1 : Int32} (h_a0 : a0 ∈ zI_0) {D : zD} : Sd X m_X0_addSign d [.ref a0, .int v1] (Sh, D) ((oI Sh) (fn_X0_addSign a0 v1 D)) := by
  obtain ⟨d, rfl⟩ : ∃ e, d = e + 1 := ⟨d - 1, by omega⟩
  replace hd : 0 ≤ d := by omega
  refine z_body ck_X0_addSign rfl (Nat.le_of_ble_eq_true rfl) rfl hst ?_
  rw [fn_X0_addSign]
  show Rn X m_X0_addSign (d + 1) 0 [(0, .ref a0), (1, .int v1)] [] (Sh, D) _
  refine r_aload_n (pc := 0) 0 d_X0_addSign_0 rfl rfl ?_
  refine q_gI (pc := 1) g_X0_40 (LK_0 h0 h_a0) rfl d_X0_addSign_1 ?_
  refine r_if_lt (f := (oI Sh)) (pc := 4) 16 d_X0_addSign_4 (by decide) (fun c1 => ?_) (fun c1 => ?_)
  · refine r_iconst (pc := 16) (0 : Int32) d_X0_addSign_16 rfl ?_
    exact r_zret (pc := 17) rfl (by decide) d_X0_addSign_17
  · refine r_aload_n (pc := 7) 0 d_X0_addSign_7 rfl rfl ?_
    refine q_gI (pc := 8) g_X0_40 (LK_0 h0 h_a0) rfl d_X0_addSign_8 ?_
    refine r_bipush (pc := 11) (12 : Int32) d_X0_addSign_11 rfl ?_
    refine r_icmp_lt (f := (oI Sh)) (pc := 13) 18 d_X0_addSign_13 (by decide) (fun c2 => ?_) (fun c2 => ?_)
    · refine r_aload_n (pc := 18) 0 d_X0_addSign_18 rfl rfl ?_
      refine r_getR (pc := 19) g_X0_18 (LK_0 h0 h_a0) rfl (LR_0_4 h0 h_a0) d_X0_addSign_19 ?_
      refine r_aload_n (pc := 22) 0 d_X0_addSign_22 rfl rfl ?_
      refine q_gI (pc := 23) g_X0_40 (LK_0 h0 h_a0) rfl d_X0_addSign_23 ?_
      refine r_iload_n (pc := 26) 1 d_X0_addSign_26 rfl rfl ?_
      refine r_ck (f := (oI Sh)) rfl (fun hc3 => ?_)
      refine q_iast (pc := 27) (j := (gI D a0 2).toNatClampNeg) (LA_0_4 h0 h_a0) hc3 rfl  d_X0_addSign_27 ?_
      refine r_letD (f := (oI Sh)) (fun D4 => ?_)
      refine r_aload_n (pc := 28) 0 d_X0_addSign_28 rfl rfl ?_
      refine r_getR (pc := 29) g_X0_22 (LK_0 h0 h_a0) rfl (LR_0_5 h0 h_a0) d_X0_addSign_29 ?_
      refine r_aload_n (pc := 32) 0 d_X0_addSign_32 rfl rfl ?_
      refine q_gI (pc := 33) g_X0_40 (LK_0 h0 h_a0) rfl d_X0_addSign_33 ?_
      refine r_iconst (pc := 36) (-1 : Int32) d_X0_addSign_36 rfl ?_
      refine r_ck (f := (oI Sh)) rfl (fun hc5 => ?_)
      refine q_iast (pc := 37) (j := (gI D4 a0 2).toNatClampNeg) (LA_0_5 h0 h_a0) hc5 rfl  d_X0_addSign_37 ?_
      refine r_letD (f := (oI Sh)) (fun D6 => ?_)
      refine r_aload_n (pc := 38) 0 d_X0_addSign_38 rfl rfl ?_
      refine r_dup (pc := 39) d_X0_addSign_39 rfl ?_
      refine q_gI (pc := 40) g_X0_40 (LK_0 h0 h_a0) rfl d_X0_addSign_40 ?_
      refine r_iconst (pc := 43) (1 : Int32) d_X0_addSign_43 rfl ?_
      refine r_iadd (pc := 44) d_X0_addSign_44 ?_
      refine r_putI (pc := 45) p_X0_40 (LK_0 h0 h_a0) rfl (Or.inl rfl) d_X0_addSign_45 ?_
      refine r_letD (f := (oI Sh)) (fun D7 => ?_)
      refine r_iconst (pc := 48) (1 : Int32) d_X0_addSign_48 rfl ?_
      exact r_zret (pc := 49) rfl (by decide) d_X0_addSign_49
    · refine r_iconst (pc := 16) (0 : Int32) d_X0_addSign_16 rfl ?_
      exact r_zret (pc := 17) rfl (by decide) d_X0_addSign_17
/-! CoveredSigns$Alphabet.setFamily -/
theorem d_X0_setFamily_0 : decode (yB m_X0_setFamily) 0 = .ok (.aload_n 0, 1) := by decide +kernel
theorem d_X0_setFamily_1 : decode (yB m_X0_setFamily) 1 = .ok (.iload_n 1, 1) := by decide +kernel
theorem d_X0_setFamily_2 : decode (yB m_X0_setFamily) 2 = .ok (.invokevirtual 56, 3) := by decide +kernel
theorem d_X0_setFamily_5 : decode (yB m_X0_setFamily) 5 = .ok (.ifCond .eq 10, 3) := by decide +kernel
theorem d_X0_setFamily_8 : decode (yB m_X0_setFamily) 8 = .ok (.aload_n 0, 1) := by decide +kernel
theorem d_X0_setFamily_9 : decode (yB m_X0_setFamily) 9 = .ok (.getfield 22, 3) := by decide +kernel
theorem d_X0_setFamily_12 : decode (yB m_X0_setFamily) 12 = .ok (.iload_n 1, 1) := by decide +kernel
theorem d_X0_setFamily_13 : decode (yB m_X0_setFamily) 13 = .ok (.iload_n 2, 1) := by decide +kernel
theorem d_X0_setFamily_14 : decode (yB m_X0_setFamily) 14 = .ok (.iastore, 1) := by decide +kernel
theorem d_X0_setFamily_15 : decode (yB m_X0_setFamily) 15 = .ok (.return_, 1) := by decide +kernel
def fn_X0_setFamily (a0 : Nat) (v1 : Int32) (v2 : Int32) (D : zD) : Option zD := (fn_X0_has a0 v1 D).bind fun x1 => (if x1 = 0 then ((some D)) else (zck v1 12 <| zlet (sI D (a0 + 2) v1.toNatClampNeg v2) fun D4 => (some D4)))
theorem s_X0_setFamily {X : zX} {Sh : zSh} {d : Nat} (hst : (zl X).stackTraces = false) (h0 : zSh0 Sh) (hd : 2 ≤ d) {a0 : Nat} {v1 : Int32} {v2 : Int32} (h_a0 : a0 ∈ zI_0) {D : zD} : Sd X m_X0_setFamily d [.ref a0, .int v1, .int v2] (Sh, D) ((oV Sh) (fn_X0_setFamily a0 v1 v2 D)) := by
  obtain ⟨d, rfl⟩ : ∃ e, d = e + 1 := ⟨d - 1, by omega⟩
  replace hd : 1 ≤ d := by omega
  refine z_body ck_X0_setFamily rfl (Nat.le_of_ble_eq_true rfl) rfl hst ?_
  rw [fn_X0_setFamily]
  show Rn X m_X0_setFamily (d + 1) 0 [(0, .ref a0), (1, .int v1), (2, .int v2)] [] (Sh, D) _
  refine r_aload_n (pc := 0) 0 d_X0_setFamily_0 rfl rfl ?_
  refine r_iload_n (pc := 1) 1 d_X0_setFamily_1 rfl rfl ?_
  refine q_cP (f := (oV Sh)) (av := [.ref a0, .int v1]) (st := []) (z_runV ck_X0_has rfl ml_X0_56 ci_X0_has cv_X0_has (LK_0 h0 h_a0) (ci := 0) rfl rfl (Nat.le_of_ble_eq_true rfl) d_X0_setFamily_2) (s_X0_has hst h0 (by omega) h_a0) kp_V (fun x1 _ => ?_)
  refine r_if_eq (f := (oV Sh)) (pc := 5) 15 d_X0_setFamily_5 (by decide) (fun c2 => ?_) (fun c2 => ?_)
  · exact r_vret (pc := 15) rfl d_X0_setFamily_15
  · refine r_aload_n (pc := 8) 0 d_X0_setFamily_8 rfl rfl ?_
    refine r_getR (pc := 9) g_X0_22 (LK_0 h0 h_a0) rfl (LR_0_5 h0 h_a0) d_X0_setFamily_9 ?_
    refine r_iload_n (pc := 12) 1 d_X0_setFamily_12 rfl rfl ?_
    refine r_iload_n (pc := 13) 2 d_X0_setFamily_13 rfl rfl ?_
    refine r_ck (f := (oV Sh)) rfl (fun hc3 => ?_)
    refine q_iast (pc := 14) (j := v1.toNatClampNeg) (LA_0_5 h0 h_a0) hc3 rfl  d_X0_setFamily_14 ?_
    refine r_letD (f := (oV Sh)) (fun D4 => ?_)
    exact r_vret (pc := 15) rfl d_X0_setFamily_15
/-! CoveredSigns$Alphabet.setLatest -/
theorem d_X0_setLatest_0 : decode (yB m_X0_setLatest) 0 = .ok (.aload_n 0, 1) := by decide +kernel
theorem d_X0_setLatest_1 : decode (yB m_X0_setLatest) 1 = .ok (.aload_n 0, 1) := by decide +kernel
theorem d_X0_setLatest_2 : decode (yB m_X0_setLatest) 2 = .ok (.getfield 40, 3) := by decide +kernel
theorem d_X0_setLatest_5 : decode (yB m_X0_setLatest) 5 = .ok (.iconst 1, 1) := by decide +kernel
theorem d_X0_setLatest_6 : decode (yB m_X0_setLatest) 6 = .ok (.isub, 1) := by decide +kernel
theorem d_X0_setLatest_7 : decode (yB m_X0_setLatest) 7 = .ok (.invokevirtual 56, 3) := by decide +kernel
theorem d_X0_setLatest_10 : decode (yB m_X0_setLatest) 10 = .ok (.ifCond .eq 15, 3) := by decide +kernel
theorem d_X0_setLatest_13 : decode (yB m_X0_setLatest) 13 = .ok (.aload_n 0, 1) := by decide +kernel
theorem d_X0_setLatest_14 : decode (yB m_X0_setLatest) 14 = .ok (.getfield 18, 3) := by decide +kernel
theorem d_X0_setLatest_17 : decode (yB m_X0_setLatest) 17 = .ok (.aload_n 0, 1) := by decide +kernel
theorem d_X0_setLatest_18 : decode (yB m_X0_setLatest) 18 = .ok (.getfield 40, 3) := by decide +kernel
theorem d_X0_setLatest_21 : decode (yB m_X0_setLatest) 21 = .ok (.iconst 1, 1) := by decide +kernel
theorem d_X0_setLatest_22 : decode (yB m_X0_setLatest) 22 = .ok (.isub, 1) := by decide +kernel
theorem d_X0_setLatest_23 : decode (yB m_X0_setLatest) 23 = .ok (.iload_n 1, 1) := by decide +kernel
theorem d_X0_setLatest_24 : decode (yB m_X0_setLatest) 24 = .ok (.iastore, 1) := by decide +kernel
theorem d_X0_setLatest_25 : decode (yB m_X0_setLatest) 25 = .ok (.return_, 1) := by decide +kernel
def fn_X0_setLatest (a0 : Nat) (v1 : Int32) (D : zD) : Option zD := (fn_X0_has a0 ((gI D a0 2) - (1 : Int32)) D).bind fun x1 => (if x1 = 0 then ((some D)) else (zck ((gI D a0 2) - (1 : Int32)) 12 <| zlet (sI D (a0 + 1) ((gI D a0 2) - (1 : Int32)).toNatClampNeg v1) fun D4 => (some D4)))
theorem s_X0_setLatest {X : zX} {Sh : zSh} {d : Nat} (hst : (zl X).stackTraces = false) (h0 : zSh0 Sh) (hd : 2 ≤ d) {a0 : Nat} {v1 : Int32} (h_a0 : a0 ∈ zI_0) {D : zD} : Sd X m_X0_setLatest d [.ref a0, .int v1] (Sh, D) ((oV Sh) (fn_X0_setLatest a0 v1 D)) := by
  obtain ⟨d, rfl⟩ : ∃ e, d = e + 1 := ⟨d - 1, by omega⟩
  replace hd : 1 ≤ d := by omega
  refine z_body ck_X0_setLatest rfl (Nat.le_of_ble_eq_true rfl) rfl hst ?_
  rw [fn_X0_setLatest]
  show Rn X m_X0_setLatest (d + 1) 0 [(0, .ref a0), (1, .int v1)] [] (Sh, D) _
  refine r_aload_n (pc := 0) 0 d_X0_setLatest_0 rfl rfl ?_
  refine r_aload_n (pc := 1) 0 d_X0_setLatest_1 rfl rfl ?_
  refine q_gI (pc := 2) g_X0_40 (LK_0 h0 h_a0) rfl d_X0_setLatest_2 ?_
  refine r_iconst (pc := 5) (1 : Int32) d_X0_setLatest_5 rfl ?_
  refine r_isub (pc := 6) d_X0_setLatest_6 ?_
  refine q_cP (f := (oV Sh)) (av := [.ref a0, .int ((gI D a0 2) - (1 : Int32))]) (st := []) (z_runV ck_X0_has rfl ml_X0_56 ci_X0_has cv_X0_has (LK_0 h0 h_a0) (ci := 0) rfl rfl (Nat.le_of_ble_eq_true rfl) d_X0_setLatest_7) (s_X0_has hst h0 (by omega) h_a0) kp_V (fun x1 _ => ?_)
  refine r_if_eq (f := (oV Sh)) (pc := 10) 25 d_X0_setLatest_10 (by decide) (fun c2 => ?_) (fun c2 => ?_)
  · exact r_vret (pc := 25) rfl d_X0_setLatest_25
  · refine r_aload_n (pc := 13) 0 d_X0_setLatest_13 rfl rfl ?_
    refine r_getR (pc := 14) g_X0_18 (LK_0 h0 h_a0) rfl (LR_0_4 h0 h_a0) d_X0_setLatest_14 ?_
    refine r_aload_n (pc := 17) 0 d_X0_setLatest_17 rfl rfl ?_
    refine q_gI (pc := 18) g_X0_40 (LK_0 h0 h_a0) rfl d_X0_setLatest_18 ?_
    refine r_iconst (pc := 21) (1 : Int32) d_X0_setLatest_21 rfl ?_
    refine r_isub (pc := 22) d_X0_setLatest_22 ?_
    refine r_iload_n (pc := 23) 1 d_X0_setLatest_23 rfl rfl ?_
    refine r_ck (f := (oV Sh)) rfl (fun hc3 => ?_)
    refine q_iast (pc := 24) (j := ((gI D a0 2) - (1 : Int32)).toNatClampNeg) (LA_0_4 h0 h_a0) hc3 rfl  d_X0_setLatest_24 ?_
    refine r_letD (f := (oV Sh)) (fun D4 => ?_)
    exact r_vret (pc := 25) rfl d_X0_setLatest_25
/-! CoveredSigns$Alphabet.addLetter -/
theorem d_X0_addLetter_0 : decode (yB m_X0_addLetter) 0 = .ok (.aload_n 0, 1) := by decide +kernel
theorem d_X0_addLetter_1 : decode (yB m_X0_addLetter) 1 = .ok (.getfield 43, 3) := by decide +kernel
theorem d_X0_addLetter_4 : decode (yB m_X0_addLetter) 4 = .ok (.ifCond .lt 22, 3) := by decide +kernel
theorem d_X0_addLetter_7 : decode (yB m_X0_addLetter) 7 = .ok (.aload_n 0, 1) := by decide +kernel
theorem d_X0_addLetter_8 : decode (yB m_X0_addLetter) 8 = .ok (.getfield 43, 3) := by decide +kernel
theorem d_X0_addLetter_11 : decode (yB m_X0_addLetter) 11 = .ok (.bipush 8, 2) := by decide +kernel
theorem d_X0_addLetter_13 : decode (yB m_X0_addLetter) 13 = .ok (.if_icmp .ge 13, 3) := by decide +kernel
theorem d_X0_addLetter_16 : decode (yB m_X0_addLetter) 16 = .ok (.iload_n 1, 1) := by decide +kernel
theorem d_X0_addLetter_17 : decode (yB m_X0_addLetter) 17 = .ok (.ifCond .lt 9, 3) := by decide +kernel
theorem d_X0_addLetter_20 : decode (yB m_X0_addLetter) 20 = .ok (.iload_n 1, 1) := by decide +kernel
theorem d_X0_addLetter_21 : decode (yB m_X0_addLetter) 21 = .ok (.bipush 6, 2) := by decide +kernel
theorem d_X0_addLetter_23 : decode (yB m_X0_addLetter) 23 = .ok (.if_icmp .lt 5, 3) := by decide +kernel
theorem d_X0_addLetter_26 : decode (yB m_X0_addLetter) 26 = .ok (.iconst 0, 1) := by decide +kernel
theorem d_X0_addLetter_27 : decode (yB m_X0_addLetter) 27 = .ok (.ireturn, 1) := by decide +kernel
theorem d_X0_addLetter_28 : decode (yB m_X0_addLetter) 28 = .ok (.aload_n 0, 1) := by decide +kernel
theorem d_X0_addLetter_29 : decode (yB m_X0_addLetter) 29 = .ok (.getfield 25, 3) := by decide +kernel
theorem d_X0_addLetter_32 : decode (yB m_X0_addLetter) 32 = .ok (.aload_n 0, 1) := by decide +kernel
theorem d_X0_addLetter_33 : decode (yB m_X0_addLetter) 33 = .ok (.getfield 43, 3) := by decide +kernel
theorem d_X0_addLetter_36 : decode (yB m_X0_addLetter) 36 = .ok (.bipush 6, 2) := by decide +kernel
theorem d_X0_addLetter_38 : decode (yB m_X0_addLetter) 38 = .ok (.imul, 1) := by decide +kernel
theorem d_X0_addLetter_39 : decode (yB m_X0_addLetter) 39 = .ok (.iload_n 1, 1) := by decide +kernel
theorem d_X0_addLetter_40 : decode (yB m_X0_addLetter) 40 = .ok (.iadd, 1) := by decide +kernel
theorem d_X0_addLetter_41 : decode (yB m_X0_addLetter) 41 = .ok (.iload_n 2, 1) := by decide +kernel
theorem d_X0_addLetter_42 : decode (yB m_X0_addLetter) 42 = .ok (.iastore, 1) := by decide +kernel
theorem d_X0_addLetter_43 : decode (yB m_X0_addLetter) 43 = .ok (.iconst 1, 1) := by decide +kernel
theorem d_X0_addLetter_44 : decode (yB m_X0_addLetter) 44 = .ok (.ireturn, 1) := by decide +kernel
def fn_X0_addLetter (a0 : Nat) (v1 : Int32) (v2 : Int32) (D : zD) : Option (Int32 × zD) := (if (gI D a0 3) < 0 then ((some ((0 : Int32), D))) else ((if (8 : Int32) ≤ (gI D a0 3) then ((some ((0 : Int32), D))) else ((if v1 < 0 then ((some ((0 : Int32), D))) else ((if v1 < (6 : Int32) then (zck (((gI D a0 3) * (6 : Int32)) + v1) 48 <| zlet (sI D (a0 + 3) (((gI D a0 3) * (6 : Int32)) + v1).toNatClampNeg v2) fun D6 => (some ((1 : Int32), D6))) else ((some ((0 : Int32), D))))))))))
theorem s_X0_addLetter {X : zX} {Sh : zSh} {d : Nat} (hst : (zl X).stackTraces = false) (h0 : zSh0 Sh) (hd : 1 ≤ d) {a0 : Nat} {v1 : Int32} {v2 : Int32} (h_a0 : a0 ∈ zI_0) {D : zD} : Sd X m_X0_addLetter d [.ref a0, .int v1, .int v2] (Sh, D) ((oI Sh) (fn_X0_addLetter a0 v1 v2 D)) := by
  obtain ⟨d, rfl⟩ : ∃ e, d = e + 1 := ⟨d - 1, by omega⟩
  replace hd : 0 ≤ d := by omega
  refine z_body ck_X0_addLetter rfl (Nat.le_of_ble_eq_true rfl) rfl hst ?_
  rw [fn_X0_addLetter]
  show Rn X m_X0_addLetter (d + 1) 0 [(0, .ref a0), (1, .int v1), (2, .int v2)] [] (Sh, D) _
  refine r_aload_n (pc := 0) 0 d_X0_addLetter_0 rfl rfl ?_
  refine q_gI (pc := 1) g_X0_43 (LK_0 h0 h_a0) rfl d_X0_addLetter_1 ?_
  refine r_if_lt (f := (oI Sh)) (pc := 4) 26 d_X0_addLetter_4 (by decide) (fun c1 => ?_) (fun c1 => ?_)
  · refine r_iconst (pc := 26) (0 : Int32) d_X0_addLetter_26 rfl ?_
    exact r_zret (pc := 27) rfl (by decide) d_X0_addLetter_27
  · refine r_aload_n (pc := 7) 0 d_X0_addLetter_7 rfl rfl ?_
    refine q_gI (pc := 8) g_X0_43 (LK_0 h0 h_a0) rfl d_X0_addLetter_8 ?_
    refine r_bipush (pc := 11) (8 : Int32) d_X0_addLetter_11 rfl ?_
    refine r_icmp_ge (f := (oI Sh)) (pc := 13) 26 d_X0_addLetter_13 (by decide) (fun c2 => ?_) (fun c2 => ?_)
    · refine r_iconst (pc := 26) (0 : Int32) d_X0_addLetter_26 rfl ?_
      exact r_zret (pc := 27) rfl (by decide) d_X0_addLetter_27
    · refine r_iload_n (pc := 16) 1 d_X0_addLetter_16 rfl rfl ?_
      refine r_if_lt (f := (oI Sh)) (pc := 17) 26 d_X0_addLetter_17 (by decide) (fun c3 => ?_) (fun c3 => ?_)
      · refine r_iconst (pc := 26) (0 : Int32) d_X0_addLetter_26 rfl ?_
        exact r_zret (pc := 27) rfl (by decide) d_X0_addLetter_27
      · refine r_iload_n (pc := 20) 1 d_X0_addLetter_20 rfl rfl ?_
        refine r_bipush (pc := 21) (6 : Int32) d_X0_addLetter_21 rfl ?_
        refine r_icmp_lt (f := (oI Sh)) (pc := 23) 28 d_X0_addLetter_23 (by decide) (fun c4 => ?_) (fun c4 => ?_)
        · refine r_aload_n (pc := 28) 0 d_X0_addLetter_28 rfl rfl ?_
          refine r_getR (pc := 29) g_X0_25 (LK_0 h0 h_a0) rfl (LR_0_6 h0 h_a0) d_X0_addLetter_29 ?_
          refine r_aload_n (pc := 32) 0 d_X0_addLetter_32 rfl rfl ?_
          refine q_gI (pc := 33) g_X0_43 (LK_0 h0 h_a0) rfl d_X0_addLetter_33 ?_
          refine r_bipush (pc := 36) (6 : Int32) d_X0_addLetter_36 rfl ?_
          refine r_imul (pc := 38) d_X0_addLetter_38 ?_
          refine r_iload_n (pc := 39) 1 d_X0_addLetter_39 rfl rfl ?_
          refine r_iadd (pc := 40) d_X0_addLetter_40 ?_
          refine r_iload_n (pc := 41) 2 d_X0_addLetter_41 rfl rfl ?_
          refine r_ck (f := (oI Sh)) rfl (fun hc5 => ?_)
          refine q_iast (pc := 42) (j := (((gI D a0 3) * (6 : Int32)) + v1).toNatClampNeg) (LA_0_6 h0 h_a0) hc5 rfl  d_X0_addLetter_42 ?_
          refine r_letD (f := (oI Sh)) (fun D6 => ?_)
          refine r_iconst (pc := 43) (1 : Int32) d_X0_addLetter_43 rfl ?_
          exact r_zret (pc := 44) rfl (by decide) d_X0_addLetter_44
        · refine r_iconst (pc := 26) (0 : Int32) d_X0_addLetter_26 rfl ?_
          exact r_zret (pc := 27) rfl (by decide) d_X0_addLetter_27
/-! CoveredSigns$Alphabet.endWord -/
theorem d_X0_endWord_0 : decode (yB m_X0_endWord) 0 = .ok (.aload_n 0, 1) := by decide +kernel
theorem d_X0_endWord_1 : decode (yB m_X0_endWord) 1 = .ok (.getfield 43, 3) := by decide +kernel
theorem d_X0_endWord_4 : decode (yB m_X0_endWord) 4 = .ok (.ifCond .lt 12, 3) := by decide +kernel
theorem d_X0_endWord_7 : decode (yB m_X0_endWord) 7 = .ok (.aload_n 0, 1) := by decide +kernel
theorem d_X0_endWord_8 : decode (yB m_X0_endWord) 8 = .ok (.getfield 43, 3) := by decide +kernel
theorem d_X0_endWord_11 : decode (yB m_X0_endWord) 11 = .ok (.bipush 8, 2) := by decide +kernel
theorem d_X0_endWord_13 : decode (yB m_X0_endWord) 13 = .ok (.if_icmp .lt 5, 3) := by decide +kernel
theorem d_X0_endWord_16 : decode (yB m_X0_endWord) 16 = .ok (.iconst 0, 1) := by decide +kernel
theorem d_X0_endWord_17 : decode (yB m_X0_endWord) 17 = .ok (.ireturn, 1) := by decide +kernel
theorem d_X0_endWord_18 : decode (yB m_X0_endWord) 18 = .ok (.aload_n 0, 1) := by decide +kernel
theorem d_X0_endWord_19 : decode (yB m_X0_endWord) 19 = .ok (.getfield 28, 3) := by decide +kernel
theorem d_X0_endWord_22 : decode (yB m_X0_endWord) 22 = .ok (.aload_n 0, 1) := by decide +kernel
theorem d_X0_endWord_23 : decode (yB m_X0_endWord) 23 = .ok (.getfield 43, 3) := by decide +kernel
theorem d_X0_endWord_26 : decode (yB m_X0_endWord) 26 = .ok (.iload_n 1, 1) := by decide +kernel
theorem d_X0_endWord_27 : decode (yB m_X0_endWord) 27 = .ok (.iastore, 1) := by decide +kernel
theorem d_X0_endWord_28 : decode (yB m_X0_endWord) 28 = .ok (.aload_n 0, 1) := by decide +kernel
theorem d_X0_endWord_29 : decode (yB m_X0_endWord) 29 = .ok (.dup, 1) := by decide +kernel
theorem d_X0_endWord_30 : decode (yB m_X0_endWord) 30 = .ok (.getfield 43, 3) := by decide +kernel
theorem d_X0_endWord_33 : decode (yB m_X0_endWord) 33 = .ok (.iconst 1, 1) := by decide +kernel
theorem d_X0_endWord_34 : decode (yB m_X0_endWord) 34 = .ok (.iadd, 1) := by decide +kernel
theorem d_X0_endWord_35 : decode (yB m_X0_endWord) 35 = .ok (.putfield 43, 3) := by decide +kernel
theorem d_X0_endWord_38 : decode (yB m_X0_endWord) 38 = .ok (.iconst 1, 1) := by decide +kernel
theorem d_X0_endWord_39 : decode (yB m_X0_endWord) 39 = .ok (.ireturn, 1) := by decide +kernel
def fn_X0_endWord (a0 : Nat) (v1 : Int32) (D : zD) : Option (Int32 × zD) := (if (gI D a0 3) < 0 then ((some ((0 : Int32), D))) else ((if (gI D a0 3) < (8 : Int32) then (zck (gI D a0 3) 8 <| zlet (sI D (a0 + 4) (gI D a0 3).toNatClampNeg v1) fun D4 => zlet (sI D4 a0 3 ((gI D4 a0 3) + (1 : Int32))) fun D5 => (some ((1 : Int32), D5))) else ((some ((0 : Int32), D))))))
theorem s_X0_endWord {X : zX} {Sh : zSh} {d : Nat} (hst : (zl X).stackTraces = false) (h0 : zSh0 Sh) (hd : 1 ≤ d) {a0 : Nat} {v1 : Int32} (h_a0 : a0 ∈ zI_0) {D : zD} : Sd X m_X0_endWord d [.ref a0, .int v1] (Sh, D) ((oI Sh) (fn_X0_endWord a0 v1 D)) := by
  obtain ⟨d, rfl⟩ : ∃ e, d = e + 1 := ⟨d - 1, by omega⟩
  replace hd : 0 ≤ d := by omega
  refine z_body ck_X0_endWord rfl (Nat.le_of_ble_eq_true rfl) rfl hst ?_
  rw [fn_X0_endWord]
  show Rn X m_X0_endWord (d + 1) 0 [(0, .ref a0), (1, .int v1)] [] (Sh, D) _
  refine r_aload_n (pc := 0) 0 d_X0_endWord_0 rfl rfl ?_
  refine q_gI (pc := 1) g_X0_43 (LK_0 h0 h_a0) rfl d_X0_endWord_1 ?_
  refine r_if_lt (f := (oI Sh)) (pc := 4) 16 d_X0_endWord_4 (by decide) (fun c1 => ?_) (fun c1 => ?_)
  · refine r_iconst (pc := 16) (0 : Int32) d_X0_endWord_16 rfl ?_
    exact r_zret (pc := 17) rfl (by decide) d_X0_endWord_17
  · refine r_aload_n (pc := 7) 0 d_X0_endWord_7 rfl rfl ?_
    refine q_gI (pc := 8) g_X0_43 (LK_0 h0 h_a0) rfl d_X0_endWord_8 ?_
    refine r_bipush (pc := 11) (8 : Int32) d_X0_endWord_11 rfl ?_
    refine r_icmp_lt (f := (oI Sh)) (pc := 13) 18 d_X0_endWord_13 (by decide) (fun c2 => ?_) (fun c2 => ?_)
    · refine r_aload_n (pc := 18) 0 d_X0_endWord_18 rfl rfl ?_
      refine r_getR (pc := 19) g_X0_28 (LK_0 h0 h_a0) rfl (LR_0_7 h0 h_a0) d_X0_endWord_19 ?_
      refine r_aload_n (pc := 22) 0 d_X0_endWord_22 rfl rfl ?_
      refine q_gI (pc := 23) g_X0_43 (LK_0 h0 h_a0) rfl d_X0_endWord_23 ?_
      refine r_iload_n (pc := 26) 1 d_X0_endWord_26 rfl rfl ?_
      refine r_ck (f := (oI Sh)) rfl (fun hc3 => ?_)
      refine q_iast (pc := 27) (j := (gI D a0 3).toNatClampNeg) (LA_0_7 h0 h_a0) hc3 rfl  d_X0_endWord_27 ?_
      refine r_letD (f := (oI Sh)) (fun D4 => ?_)
      refine r_aload_n (pc := 28) 0 d_X0_endWord_28 rfl rfl ?_
      refine r_dup (pc := 29) d_X0_endWord_29 rfl ?_
      refine q_gI (pc := 30) g_X0_43 (LK_0 h0 h_a0) rfl d_X0_endWord_30 ?_
      refine r_iconst (pc := 33) (1 : Int32) d_X0_endWord_33 rfl ?_
      refine r_iadd (pc := 34) d_X0_endWord_34 ?_
      refine r_putI (pc := 35) p_X0_43 (LK_0 h0 h_a0) rfl (Or.inl rfl) d_X0_endWord_35 ?_
      refine r_letD (f := (oI Sh)) (fun D5 => ?_)
      refine r_iconst (pc := 38) (1 : Int32) d_X0_endWord_38 rfl ?_
      exact r_zret (pc := 39) rfl (by decide) d_X0_endWord_39
    · refine r_iconst (pc := 16) (0 : Int32) d_X0_endWord_16 rfl ?_
      exact r_zret (pc := 17) rfl (by decide) d_X0_endWord_17
/-! CoveredSigns$Alphabet.halfTurned -/
theorem d_X0_halfTurned_0 : decode (yB m_X0_halfTurned) 0 = .ok (.iconst 0, 1) := by decide +kernel
theorem d_X0_halfTurned_1 : decode (yB m_X0_halfTurned) 1 = .ok (.istore_n 2, 1) := by decide +kernel
theorem d_X0_halfTurned_2 : decode (yB m_X0_halfTurned) 2 = .ok (.aload_n 0, 1) := by decide +kernel
theorem d_X0_halfTurned_3 : decode (yB m_X0_halfTurned) 3 = .ok (.invokevirtual 52, 3) := by decide +kernel
theorem d_X0_halfTurned_6 : decode (yB m_X0_halfTurned) 6 = .ok (.iconst 1, 1) := by decide +kernel
theorem d_X0_halfTurned_7 : decode (yB m_X0_halfTurned) 7 = .ok (.isub, 1) := by decide +kernel
theorem d_X0_halfTurned_8 : decode (yB m_X0_halfTurned) 8 = .ok (.istore_n 3, 1) := by decide +kernel
theorem d_X0_halfTurned_9 : decode (yB m_X0_halfTurned) 9 = .ok (.iconst 0, 1) := by decide +kernel
theorem d_X0_halfTurned_10 : decode (yB m_X0_halfTurned) 10 = .ok (.istore 4, 2) := by decide +kernel
theorem d_X0_halfTurned_12 : decode (yB m_X0_halfTurned) 12 = .ok (.iload 4, 2) := by decide +kernel
theorem d_X0_halfTurned_14 : decode (yB m_X0_halfTurned) 14 = .ok (.iload_n 3, 1) := by decide +kernel
theorem d_X0_halfTurned_15 : decode (yB m_X0_halfTurned) 15 = .ok (.if_icmp .gt 27, 3) := by decide +kernel
theorem d_X0_halfTurned_18 : decode (yB m_X0_halfTurned) 18 = .ok (.iload_n 1, 1) := by decide +kernel
theorem d_X0_halfTurned_19 : decode (yB m_X0_halfTurned) 19 = .ok (.iload 4, 2) := by decide +kernel
theorem d_X0_halfTurned_21 : decode (yB m_X0_halfTurned) 21 = .ok (.ishr, 1) := by decide +kernel
theorem d_X0_halfTurned_22 : decode (yB m_X0_halfTurned) 22 = .ok (.iconst 1, 1) := by decide +kernel
theorem d_X0_halfTurned_23 : decode (yB m_X0_halfTurned) 23 = .ok (.iand, 1) := by decide +kernel
theorem d_X0_halfTurned_24 : decode (yB m_X0_halfTurned) 24 = .ok (.ifCond .eq 12, 3) := by decide +kernel
theorem d_X0_halfTurned_27 : decode (yB m_X0_halfTurned) 27 = .ok (.iload_n 2, 1) := by decide +kernel
theorem d_X0_halfTurned_28 : decode (yB m_X0_halfTurned) 28 = .ok (.iconst 1, 1) := by decide +kernel
theorem d_X0_halfTurned_29 : decode (yB m_X0_halfTurned) 29 = .ok (.iload_n 3, 1) := by decide +kernel
theorem d_X0_halfTurned_30 : decode (yB m_X0_halfTurned) 30 = .ok (.iload 4, 2) := by decide +kernel
theorem d_X0_halfTurned_32 : decode (yB m_X0_halfTurned) 32 = .ok (.isub, 1) := by decide +kernel
theorem d_X0_halfTurned_33 : decode (yB m_X0_halfTurned) 33 = .ok (.ishl, 1) := by decide +kernel
theorem d_X0_halfTurned_34 : decode (yB m_X0_halfTurned) 34 = .ok (.ior, 1) := by decide +kernel
theorem d_X0_halfTurned_35 : decode (yB m_X0_halfTurned) 35 = .ok (.istore_n 2, 1) := by decide +kernel
theorem d_X0_halfTurned_36 : decode (yB m_X0_halfTurned) 36 = .ok (.iinc 4 1, 3) := by decide +kernel
theorem d_X0_halfTurned_39 : decode (yB m_X0_halfTurned) 39 = .ok (.goto (-27), 3) := by decide +kernel
theorem d_X0_halfTurned_42 : decode (yB m_X0_halfTurned) 42 = .ok (.iload_n 2, 1) := by decide +kernel
theorem d_X0_halfTurned_43 : decode (yB m_X0_halfTurned) 43 = .ok (.ireturn, 1) := by decide +kernel
def fn_X0_halfTurned_12 (a0 : Nat) (v1 : Int32) (D : zD) : Nat → Int32 → Int32 → Int32 → Option Int32
  | 0, _, _, _ => none
  | n + 1, v2, v3, v4 => (if v3 < v4 then ((some v2)) else ((if ((v1 >>> (v4 &&& 31)) &&& (1 : Int32)) = 0 then (((fn_X0_halfTurned_12 a0 v1 D n) v2 v3 (v4 + (1 : Int32)))) else (zlet (v2 ||| ((1 : Int32) <<< ((v3 - v4) &&& 31))) fun x5 => ((fn_X0_halfTurned_12 a0 v1 D n) x5 v3 (v4 + (1 : Int32)))))))
def fn_X0_halfTurned (a0 : Nat) (v1 : Int32) (D : zD) : Option Int32 := (fn_X0_cells a0 D).bind fun x1 => zlet (x1 - (1 : Int32)) fun x2 => (fn_X0_halfTurned_12 a0 v1 D zFU (0 : Int32) x2 (0 : Int32))
theorem s_X0_halfTurned_12 {X : zX} {Sh : zSh} {d : Nat} (hst : (zl X).stackTraces = false) (h0 : zSh0 Sh) (hd : 1 ≤ d) {a0 : Nat} {v1 : Int32} (h_a0 : a0 ∈ zI_0) (D : zD) : ∀ (n : Nat) (v2 : Int32) (v3 : Int32) (v4 : Int32) , Rn X m_X0_halfTurned (d + 1) 12 [(1, .int v1), (2, .int v2), (3, .int v3), (4, .int v4)] [] (Sh, D) ((oP Sh D) (fn_X0_halfTurned_12 a0 v1 D n v2 v3 v4)) := by
  intro n
  induction n with
  | zero => intro v2 v3 v4; exact Rn_none rfl
  | succ n hk12 =>
    intro v2 v3 v4
    rw [fn_X0_halfTurned_12]
    refine r_iload (pc := 12) 3 d_X0_halfTurned_12 rfl ?_
    refine r_iload_n (pc := 14) 2 d_X0_halfTurned_14 rfl rfl ?_
    refine r_icmp_gt (f := (oP Sh D)) (pc := 15) 42 d_X0_halfTurned_15 (by decide) (fun c3 => ?_) (fun c3 => ?_)
    · refine r_iload_n (pc := 42) 1 d_X0_halfTurned_42 rfl rfl ?_
      exact r_iret (pc := 43) rfl d_X0_halfTurned_43
    · refine r_iload_n (pc := 18) 0 d_X0_halfTurned_18 rfl rfl ?_
      refine r_iload (pc := 19) 3 d_X0_halfTurned_19 rfl ?_
      refine r_ishr (pc := 21) d_X0_halfTurned_21 ?_
      refine r_iconst (pc := 22) (1 : Int32) d_X0_halfTurned_22 rfl ?_
      refine r_iand (pc := 23) d_X0_halfTurned_23 ?_
      refine r_if_eq (f := (oP Sh D)) (pc := 24) 36 d_X0_halfTurned_24 (by decide) (fun c4 => ?_) (fun c4 => ?_)
      · refine r_iinc (pc := 36) ((v4 + (1 : Int32))) 3 (ls' := [(4, .int (v4 + (1 : Int32))), (1, .int v1), (2, .int v2), (3, .int v3)]) d_X0_halfTurned_36 rfl rfl (Nat.le_of_ble_eq_true rfl) rfl ?_
        refine r_goto (pc := 39) 12 d_X0_halfTurned_39 (by decide) ?_
        refine r_pick [1, 2, 3, 0] (ls' := [(1, .int v1), (2, .int v2), (3, .int v3), (4, .int (v4 + (1 : Int32)))]) rfl ?_
        exact hk12 v2 v3 (v4 + (1 : Int32)) 
      · refine r_iload_n (pc := 27) 1 d_X0_halfTurned_27 rfl rfl ?_
        refine r_iconst (pc := 28) (1 : Int32) d_X0_halfTurned_28 rfl ?_
        refine r_iload_n (pc := 29) 2 d_X0_halfTurned_29 rfl rfl ?_
        refine r_iload (pc := 30) 3 d_X0_halfTurned_30 rfl ?_
        refine r_isub (pc := 32) d_X0_halfTurned_32 ?_
        refine r_ishl (pc := 33) d_X0_halfTurned_33 ?_
        refine r_ior (pc := 34) d_X0_halfTurned_34 ?_
        refine r_leti (f := (oP Sh D)) (fun x5 => ?_)
        refine r_istore_n (pc := 35) (ls' := [(2, .int x5), (1, .int v1), (3, .int v3), (4, .int v4)]) d_X0_halfTurned_35 rfl (Nat.le_of_ble_eq_true rfl) rfl ?_
        refine r_iinc (pc := 36) ((v4 + (1 : Int32))) 3 (ls' := [(4, .int (v4 + (1 : Int32))), (2, .int x5), (1, .int v1), (3, .int v3)]) d_X0_halfTurned_36 rfl rfl (Nat.le_of_ble_eq_true rfl) rfl ?_
        refine r_goto (pc := 39) 12 d_X0_halfTurned_39 (by decide) ?_
        refine r_pick [2, 1, 3, 0] (ls' := [(1, .int v1), (2, .int x5), (3, .int v3), (4, .int (v4 + (1 : Int32)))]) rfl ?_
        exact hk12 x5 v3 (v4 + (1 : Int32)) 
theorem s_X0_halfTurned {X : zX} {Sh : zSh} {d : Nat} (hst : (zl X).stackTraces = false) (h0 : zSh0 Sh) (hd : 2 ≤ d) {a0 : Nat} {v1 : Int32} (h_a0 : a0 ∈ zI_0) {D : zD} : Sd X m_X0_halfTurned d [.ref a0, .int v1] (Sh, D) ((oP Sh D) (fn_X0_halfTurned a0 v1 D)) := by
  obtain ⟨d, rfl⟩ : ∃ e, d = e + 1 := ⟨d - 1, by omega⟩
  replace hd : 1 ≤ d := by omega
  refine z_body ck_X0_halfTurned rfl (Nat.le_of_ble_eq_true rfl) rfl hst ?_
  rw [fn_X0_halfTurned]
  show Rn X m_X0_halfTurned (d + 1) 0 [(0, .ref a0), (1, .int v1)] [] (Sh, D) _
  refine r_iconst (pc := 0) (0 : Int32) d_X0_halfTurned_0 rfl ?_
  refine r_istore_n (pc := 1) (ls' := [(2, .int (0 : Int32)), (0, .ref a0), (1, .int v1)]) d_X0_halfTurned_1 rfl (Nat.le_of_ble_eq_true rfl) rfl ?_
  refine r_aload_n (pc := 2) 1 d_X0_halfTurned_2 rfl rfl ?_
  refine q_cP (f := (oP Sh D)) (av := [.ref a0]) (st := []) (z_runV ck_X0_cells rfl ml_X0_52 ci_X0_cells cv_X0_cells (LK_0 h0 h_a0) (ci := 0) rfl rfl (Nat.le_of_ble_eq_true rfl) d_X0_halfTurned_3) (s_X0_cells hst h0 (by omega) h_a0) kp_P (fun x1 _ => ?_)
  refine r_iconst (pc := 6) (1 : Int32) d_X0_halfTurned_6 rfl ?_
  refine r_isub (pc := 7) d_X0_halfTurned_7 ?_
  refine r_leti (f := (oP Sh D)) (fun x2 => ?_)
  refine r_istore_n (pc := 8) (ls' := [(3, .int x2), (2, .int (0 : Int32)), (0, .ref a0), (1, .int v1)]) d_X0_halfTurned_8 rfl (Nat.le_of_ble_eq_true rfl) rfl ?_
  refine r_iconst (pc := 9) (0 : Int32) d_X0_halfTurned_9 rfl ?_
  refine r_istore (pc := 10) (ls' := [(4, .int (0 : Int32)), (3, .int x2), (2, .int (0 : Int32)), (0, .ref a0), (1, .int v1)]) d_X0_halfTurned_10 (Nat.le_of_ble_eq_true rfl) rfl ?_
  refine r_pick [4, 2, 1, 0] (ls' := [(1, .int v1), (2, .int (0 : Int32)), (3, .int x2), (4, .int (0 : Int32))]) rfl ?_
  exact s_X0_halfTurned_12 hst h0 hd h_a0 D zFU  (0 : Int32) x2 (0 : Int32)
/-! CoveredSigns$Alphabet.mirrored -/
theorem d_X0_mirrored_0 : decode (yB m_X0_mirrored) 0 = .ok (.iconst 0, 1) := by decide +kernel
theorem d_X0_mirrored_1 : decode (yB m_X0_mirrored) 1 = .ok (.istore_n 2, 1) := by decide +kernel
theorem d_X0_mirrored_2 : decode (yB m_X0_mirrored) 2 = .ok (.iconst 0, 1) := by decide +kernel
theorem d_X0_mirrored_3 : decode (yB m_X0_mirrored) 3 = .ok (.istore_n 3, 1) := by decide +kernel
theorem d_X0_mirrored_4 : decode (yB m_X0_mirrored) 4 = .ok (.iload_n 3, 1) := by decide +kernel
theorem d_X0_mirrored_5 : decode (yB m_X0_mirrored) 5 = .ok (.aload_n 0, 1) := by decide +kernel
theorem d_X0_mirrored_6 : decode (yB m_X0_mirrored) 6 = .ok (.getfield 15, 3) := by decide +kernel
theorem d_X0_mirrored_9 : decode (yB m_X0_mirrored) 9 = .ok (.if_icmp .ge 64, 3) := by decide +kernel
theorem d_X0_mirrored_12 : decode (yB m_X0_mirrored) 12 = .ok (.iconst 0, 1) := by decide +kernel
theorem d_X0_mirrored_13 : decode (yB m_X0_mirrored) 13 = .ok (.istore 4, 2) := by decide +kernel
theorem d_X0_mirrored_15 : decode (yB m_X0_mirrored) 15 = .ok (.iload 4, 2) := by decide +kernel
theorem d_X0_mirrored_17 : decode (yB m_X0_mirrored) 17 = .ok (.aload_n 0, 1) := by decide +kernel
theorem d_X0_mirrored_18 : decode (yB m_X0_mirrored) 18 = .ok (.getfield 9, 3) := by decide +kernel
theorem d_X0_mirrored_21 : decode (yB m_X0_mirrored) 21 = .ok (.if_icmp .ge 46, 3) := by decide +kernel
theorem d_X0_mirrored_24 : decode (yB m_X0_mirrored) 24 = .ok (.iload_n 1, 1) := by decide +kernel
theorem d_X0_mirrored_25 : decode (yB m_X0_mirrored) 25 = .ok (.aload_n 0, 1) := by decide +kernel
theorem d_X0_mirrored_26 : decode (yB m_X0_mirrored) 26 = .ok (.getfield 9, 3) := by decide +kernel
theorem d_X0_mirrored_29 : decode (yB m_X0_mirrored) 29 = .ok (.iload_n 3, 1) := by decide +kernel
theorem d_X0_mirrored_30 : decode (yB m_X0_mirrored) 30 = .ok (.imul, 1) := by decide +kernel
theorem d_X0_mirrored_31 : decode (yB m_X0_mirrored) 31 = .ok (.iload 4, 2) := by decide +kernel
theorem d_X0_mirrored_33 : decode (yB m_X0_mirrored) 33 = .ok (.iadd, 1) := by decide +kernel
theorem d_X0_mirrored_34 : decode (yB m_X0_mirrored) 34 = .ok (.ishr, 1) := by decide +kernel
theorem d_X0_mirrored_35 : decode (yB m_X0_mirrored) 35 = .ok (.iconst 1, 1) := by decide +kernel
theorem d_X0_mirrored_36 : decode (yB m_X0_mirrored) 36 = .ok (.iand, 1) := by decide +kernel
theorem d_X0_mirrored_37 : decode (yB m_X0_mirrored) 37 = .ok (.ifCond .eq 24, 3) := by decide +kernel
theorem d_X0_mirrored_40 : decode (yB m_X0_mirrored) 40 = .ok (.iload_n 2, 1) := by decide +kernel
theorem d_X0_mirrored_41 : decode (yB m_X0_mirrored) 41 = .ok (.iconst 1, 1) := by decide +kernel
theorem d_X0_mirrored_42 : decode (yB m_X0_mirrored) 42 = .ok (.aload_n 0, 1) := by decide +kernel
theorem d_X0_mirrored_43 : decode (yB m_X0_mirrored) 43 = .ok (.getfield 9, 3) := by decide +kernel
theorem d_X0_mirrored_46 : decode (yB m_X0_mirrored) 46 = .ok (.iload_n 3, 1) := by decide +kernel
theorem d_X0_mirrored_47 : decode (yB m_X0_mirrored) 47 = .ok (.imul, 1) := by decide +kernel
theorem d_X0_mirrored_48 : decode (yB m_X0_mirrored) 48 = .ok (.aload_n 0, 1) := by decide +kernel
theorem d_X0_mirrored_49 : decode (yB m_X0_mirrored) 49 = .ok (.getfield 9, 3) := by decide +kernel
theorem d_X0_mirrored_52 : decode (yB m_X0_mirrored) 52 = .ok (.iadd, 1) := by decide +kernel
theorem d_X0_mirrored_53 : decode (yB m_X0_mirrored) 53 = .ok (.iconst 1, 1) := by decide +kernel
theorem d_X0_mirrored_54 : decode (yB m_X0_mirrored) 54 = .ok (.isub, 1) := by decide +kernel
theorem d_X0_mirrored_55 : decode (yB m_X0_mirrored) 55 = .ok (.iload 4, 2) := by decide +kernel
theorem d_X0_mirrored_57 : decode (yB m_X0_mirrored) 57 = .ok (.isub, 1) := by decide +kernel
theorem d_X0_mirrored_58 : decode (yB m_X0_mirrored) 58 = .ok (.ishl, 1) := by decide +kernel
theorem d_X0_mirrored_59 : decode (yB m_X0_mirrored) 59 = .ok (.ior, 1) := by decide +kernel
theorem d_X0_mirrored_60 : decode (yB m_X0_mirrored) 60 = .ok (.istore_n 2, 1) := by decide +kernel
theorem d_X0_mirrored_61 : decode (yB m_X0_mirrored) 61 = .ok (.iinc 4 1, 3) := by decide +kernel
theorem d_X0_mirrored_64 : decode (yB m_X0_mirrored) 64 = .ok (.goto (-49), 3) := by decide +kernel
theorem d_X0_mirrored_67 : decode (yB m_X0_mirrored) 67 = .ok (.iinc 3 1, 3) := by decide +kernel
theorem d_X0_mirrored_70 : decode (yB m_X0_mirrored) 70 = .ok (.goto (-66), 3) := by decide +kernel
theorem d_X0_mirrored_73 : decode (yB m_X0_mirrored) 73 = .ok (.iload_n 2, 1) := by decide +kernel
theorem d_X0_mirrored_74 : decode (yB m_X0_mirrored) 74 = .ok (.ireturn, 1) := by decide +kernel
def fn_X0_mirrored_15 (a0 : Nat) (v1 : Int32) (D : zD) (k4 : Int32 → Int32 → Option Int32) : Nat → Int32 → Int32 → Int32 → Option Int32
  | 0, _, _, _ => none
  | n + 1, v2, v3, v4 => (if (gI D a0 0) ≤ v4 then ((k4 v2 (v3 + (1 : Int32)))) else ((if ((v1 >>> ((((gI D a0 0) * v3) + v4) &&& 31)) &&& (1 : Int32)) = 0 then (((fn_X0_mirrored_15 a0 v1 D k4 n) v2 v3 (v4 + (1 : Int32)))) else (zlet (v2 ||| ((1 : Int32) <<< ((((((gI D a0 0) * v3) + (gI D a0 0)) - (1 : Int32)) - v4) &&& 31))) fun x4 => ((fn_X0_mirrored_15 a0 v1 D k4 n) x4 v3 (v4 + (1 : Int32)))))))
def fn_X0_mirrored_4 (a0 : Nat) (v1 : Int32) (D : zD) : Nat → Int32 → Int32 → Option Int32
  | 0, _, _ => none
  | n + 1, v2, v3 => (if (gI D a0 1) ≤ v3 then ((some v2)) else ((fn_X0_mirrored_15 a0 v1 D (fn_X0_mirrored_4 a0 v1 D n) zFU v2 v3 (0 : Int32))))
def fn_X0_mirrored (a0 : Nat) (v1 : Int32) (D : zD) : Option Int32 := (fn_X0_mirrored_4 a0 v1 D zFU (0 : Int32) (0 : Int32))
theorem s_X0_mirrored_15 {X : zX} {Sh : zSh} {d : Nat} (hst : (zl X).stackTraces = false) (h0 : zSh0 Sh) (hd : 0 ≤ d) {a0 : Nat} {v1 : Int32} (h_a0 : a0 ∈ zI_0) (D : zD) (k4 : Int32 → Int32 → Option Int32) (hk4 : ∀ (v2 : Int32) (v3 : Int32) , Rn X m_X0_mirrored (d + 1) 4 [(0, .ref a0), (1, .int v1), (2, .int v2), (3, .int v3)] [] (Sh, D) ((oP Sh D) (k4 v2 v3))) : ∀ (n : Nat) (v2 : Int32) (v3 : Int32) (v4 : Int32) , Rn X m_X0_mirrored (d + 1) 15 [(0, .ref a0), (1, .int v1), (2, .int v2), (3, .int v3), (4, .int v4)] [] (Sh, D) ((oP Sh D) (fn_X0_mirrored_15 a0 v1 D k4 n v2 v3 v4)) := by
  intro n
  induction n with
  | zero => intro v2 v3 v4; exact Rn_none rfl
  | succ n hk15 =>
    intro v2 v3 v4
    rw [fn_X0_mirrored_15]
    refine r_iload (pc := 15) 4 d_X0_mirrored_15 rfl ?_
    refine r_aload_n (pc := 17) 0 d_X0_mirrored_17 rfl rfl ?_
    refine q_gI (pc := 18) g_X0_9 (LK_0 h0 h_a0) rfl d_X0_mirrored_18 ?_
    refine r_icmp_ge (f := (oP Sh D)) (pc := 21) 67 d_X0_mirrored_21 (by decide) (fun c2 => ?_) (fun c2 => ?_)
    · refine r_iinc (pc := 67) ((v3 + (1 : Int32))) 3 (ls' := [(3, .int (v3 + (1 : Int32))), (0, .ref a0), (1, .int v1), (2, .int v2), (4, .int v4)]) d_X0_mirrored_67 rfl rfl (Nat.le_of_ble_eq_true rfl) rfl ?_
      refine r_goto (pc := 70) 4 d_X0_mirrored_70 (by decide) ?_
      refine r_pick [1, 2, 3, 0] (ls' := [(0, .ref a0), (1, .int v1), (2, .int v2), (3, .int (v3 + (1 : Int32)))]) rfl ?_
      exact hk4 v2 (v3 + (1 : Int32)) 
    · refine r_iload_n (pc := 24) 1 d_X0_mirrored_24 rfl rfl ?_
      refine r_aload_n (pc := 25) 0 d_X0_mirrored_25 rfl rfl ?_
      refine q_gI (pc := 26) g_X0_9 (LK_0 h0 h_a0) rfl d_X0_mirrored_26 ?_
      refine r_iload_n (pc := 29) 3 d_X0_mirrored_29 rfl rfl ?_
      refine r_imul (pc := 30) d_X0_mirrored_30 ?_
      refine r_iload (pc := 31) 4 d_X0_mirrored_31 rfl ?_
      refine r_iadd (pc := 33) d_X0_mirrored_33 ?_
      refine r_ishr (pc := 34) d_X0_mirrored_34 ?_
      refine r_iconst (pc := 35) (1 : Int32) d_X0_mirrored_35 rfl ?_
      refine r_iand (pc := 36) d_X0_mirrored_36 ?_
      refine r_if_eq (f := (oP Sh D)) (pc := 37) 61 d_X0_mirrored_37 (by decide) (fun c3 => ?_) (fun c3 => ?_)
      · refine r_iinc (pc := 61) ((v4 + (1 : Int32))) 4 (ls' := [(4, .int (v4 + (1 : Int32))), (0, .ref a0), (1, .int v1), (2, .int v2), (3, .int v3)]) d_X0_mirrored_61 rfl rfl (Nat.le_of_ble_eq_true rfl) rfl ?_
        refine r_goto (pc := 64) 15 d_X0_mirrored_64 (by decide) ?_
        refine r_pick [1, 2, 3, 4, 0] (ls' := [(0, .ref a0), (1, .int v1), (2, .int v2), (3, .int v3), (4, .int (v4 + (1 : Int32)))]) rfl ?_
        exact hk15 v2 v3 (v4 + (1 : Int32)) 
      · refine r_iload_n (pc := 40) 2 d_X0_mirrored_40 rfl rfl ?_
        refine r_iconst (pc := 41) (1 : Int32) d_X0_mirrored_41 rfl ?_
        refine r_aload_n (pc := 42) 0 d_X0_mirrored_42 rfl rfl ?_
        refine q_gI (pc := 43) g_X0_9 (LK_0 h0 h_a0) rfl d_X0_mirrored_43 ?_
        refine r_iload_n (pc := 46) 3 d_X0_mirrored_46 rfl rfl ?_
        refine r_imul (pc := 47) d_X0_mirrored_47 ?_
        refine r_aload_n (pc := 48) 0 d_X0_mirrored_48 rfl rfl ?_
        refine q_gI (pc := 49) g_X0_9 (LK_0 h0 h_a0) rfl d_X0_mirrored_49 ?_
        refine r_iadd (pc := 52) d_X0_mirrored_52 ?_
        refine r_iconst (pc := 53) (1 : Int32) d_X0_mirrored_53 rfl ?_
        refine r_isub (pc := 54) d_X0_mirrored_54 ?_
        refine r_iload (pc := 55) 4 d_X0_mirrored_55 rfl ?_
        refine r_isub (pc := 57) d_X0_mirrored_57 ?_
        refine r_ishl (pc := 58) d_X0_mirrored_58 ?_
        refine r_ior (pc := 59) d_X0_mirrored_59 ?_
        refine r_leti (f := (oP Sh D)) (fun x4 => ?_)
        refine r_istore_n (pc := 60) (ls' := [(2, .int x4), (0, .ref a0), (1, .int v1), (3, .int v3), (4, .int v4)]) d_X0_mirrored_60 rfl (Nat.le_of_ble_eq_true rfl) rfl ?_
        refine r_iinc (pc := 61) ((v4 + (1 : Int32))) 4 (ls' := [(4, .int (v4 + (1 : Int32))), (2, .int x4), (0, .ref a0), (1, .int v1), (3, .int v3)]) d_X0_mirrored_61 rfl rfl (Nat.le_of_ble_eq_true rfl) rfl ?_
        refine r_goto (pc := 64) 15 d_X0_mirrored_64 (by decide) ?_
        refine r_pick [2, 3, 1, 4, 0] (ls' := [(0, .ref a0), (1, .int v1), (2, .int x4), (3, .int v3), (4, .int (v4 + (1 : Int32)))]) rfl ?_
        exact hk15 x4 v3 (v4 + (1 : Int32)) 
theorem s_X0_mirrored_4 {X : zX} {Sh : zSh} {d : Nat} (hst : (zl X).stackTraces = false) (h0 : zSh0 Sh) (hd : 0 ≤ d) {a0 : Nat} {v1 : Int32} (h_a0 : a0 ∈ zI_0) (D : zD) : ∀ (n : Nat) (v2 : Int32) (v3 : Int32) , Rn X m_X0_mirrored (d + 1) 4 [(0, .ref a0), (1, .int v1), (2, .int v2), (3, .int v3)] [] (Sh, D) ((oP Sh D) (fn_X0_mirrored_4 a0 v1 D n v2 v3)) := by
  intro n
  induction n with
  | zero => intro v2 v3; exact Rn_none rfl
  | succ n hk4 =>
    intro v2 v3
    rw [fn_X0_mirrored_4]
    refine r_iload_n (pc := 4) 3 d_X0_mirrored_4 rfl rfl ?_
    refine r_aload_n (pc := 5) 0 d_X0_mirrored_5 rfl rfl ?_
    refine q_gI (pc := 6) g_X0_15 (LK_0 h0 h_a0) rfl d_X0_mirrored_6 ?_
    refine r_icmp_ge (f := (oP Sh D)) (pc := 9) 73 d_X0_mirrored_9 (by decide) (fun c1 => ?_) (fun c1 => ?_)
    · refine r_iload_n (pc := 73) 2 d_X0_mirrored_73 rfl rfl ?_
      exact r_iret (pc := 74) rfl d_X0_mirrored_74
    · refine r_iconst (pc := 12) (0 : Int32) d_X0_mirrored_12 rfl ?_
      refine r_istore (pc := 13) (ls' := [(4, .int (0 : Int32)), (0, .ref a0), (1, .int v1), (2, .int v2), (3, .int v3)]) d_X0_mirrored_13 (Nat.le_of_ble_eq_true rfl) rfl ?_
      refine r_pick [1, 2, 3, 4, 0] (ls' := [(0, .ref a0), (1, .int v1), (2, .int v2), (3, .int v3), (4, .int (0 : Int32))]) rfl ?_
      exact s_X0_mirrored_15 hst h0 hd h_a0 D (fn_X0_mirrored_4 a0 v1 D n) hk4 zFU  v2 v3 (0 : Int32)
theorem s_X0_mirrored {X : zX} {Sh : zSh} {d : Nat} (hst : (zl X).stackTraces = false) (h0 : zSh0 Sh) (hd : 1 ≤ d) {a0 : Nat} {v1 : Int32} (h_a0 : a0 ∈ zI_0) {D : zD} : Sd X m_X0_mirrored d [.ref a0, .int v1] (Sh, D) ((oP Sh D) (fn_X0_mirrored a0 v1 D)) := by
  obtain ⟨d, rfl⟩ : ∃ e, d = e + 1 := ⟨d - 1, by omega⟩
  replace hd : 0 ≤ d := by omega
  refine z_body ck_X0_mirrored rfl (Nat.le_of_ble_eq_true rfl) rfl hst ?_
  rw [fn_X0_mirrored]
  show Rn X m_X0_mirrored (d + 1) 0 [(0, .ref a0), (1, .int v1)] [] (Sh, D) _
  refine r_iconst (pc := 0) (0 : Int32) d_X0_mirrored_0 rfl ?_
  refine r_istore_n (pc := 1) (ls' := [(2, .int (0 : Int32)), (0, .ref a0), (1, .int v1)]) d_X0_mirrored_1 rfl (Nat.le_of_ble_eq_true rfl) rfl ?_
  refine r_iconst (pc := 2) (0 : Int32) d_X0_mirrored_2 rfl ?_
  refine r_istore_n (pc := 3) (ls' := [(3, .int (0 : Int32)), (2, .int (0 : Int32)), (0, .ref a0), (1, .int v1)]) d_X0_mirrored_3 rfl (Nat.le_of_ble_eq_true rfl) rfl ?_
  refine r_pick [2, 3, 1, 0] (ls' := [(0, .ref a0), (1, .int v1), (2, .int (0 : Int32)), (3, .int (0 : Int32))]) rfl ?_
  exact s_X0_mirrored_4 hst h0 hd h_a0 D zFU  (0 : Int32) (0 : Int32)
/-! CoveredSigns$Alphabet.columnCells -/
theorem d_X0_columnCells_0 : decode (yB m_X0_columnCells) 0 = .ok (.iconst 0, 1) := by decide +kernel
theorem d_X0_columnCells_1 : decode (yB m_X0_columnCells) 1 = .ok (.istore_n 2, 1) := by decide +kernel
theorem d_X0_columnCells_2 : decode (yB m_X0_columnCells) 2 = .ok (.iconst 0, 1) := by decide +kernel
theorem d_X0_columnCells_3 : decode (yB m_X0_columnCells) 3 = .ok (.istore_n 3, 1) := by decide +kernel
theorem d_X0_columnCells_4 : decode (yB m_X0_columnCells) 4 = .ok (.iload_n 3, 1) := by decide +kernel
theorem d_X0_columnCells_5 : decode (yB m_X0_columnCells) 5 = .ok (.aload_n 0, 1) := by decide +kernel
theorem d_X0_columnCells_6 : decode (yB m_X0_columnCells) 6 = .ok (.getfield 15, 3) := by decide +kernel
theorem d_X0_columnCells_9 : decode (yB m_X0_columnCells) 9 = .ok (.if_icmp .ge 29, 3) := by decide +kernel
theorem d_X0_columnCells_12 : decode (yB m_X0_columnCells) 12 = .ok (.iload_n 2, 1) := by decide +kernel
theorem d_X0_columnCells_13 : decode (yB m_X0_columnCells) 13 = .ok (.iload_n 1, 1) := by decide +kernel
theorem d_X0_columnCells_14 : decode (yB m_X0_columnCells) 14 = .ok (.iconst 1, 1) := by decide +kernel
theorem d_X0_columnCells_15 : decode (yB m_X0_columnCells) 15 = .ok (.aload_n 0, 1) := by decide +kernel
theorem d_X0_columnCells_16 : decode (yB m_X0_columnCells) 16 = .ok (.getfield 9, 3) := by decide +kernel
theorem d_X0_columnCells_19 : decode (yB m_X0_columnCells) 19 = .ok (.ishl, 1) := by decide +kernel
theorem d_X0_columnCells_20 : decode (yB m_X0_columnCells) 20 = .ok (.iconst 1, 1) := by decide +kernel
theorem d_X0_columnCells_21 : decode (yB m_X0_columnCells) 21 = .ok (.isub, 1) := by decide +kernel
theorem d_X0_columnCells_22 : decode (yB m_X0_columnCells) 22 = .ok (.iand, 1) := by decide +kernel
theorem d_X0_columnCells_23 : decode (yB m_X0_columnCells) 23 = .ok (.aload_n 0, 1) := by decide +kernel
theorem d_X0_columnCells_24 : decode (yB m_X0_columnCells) 24 = .ok (.getfield 9, 3) := by decide +kernel
theorem d_X0_columnCells_27 : decode (yB m_X0_columnCells) 27 = .ok (.iload_n 3, 1) := by decide +kernel
theorem d_X0_columnCells_28 : decode (yB m_X0_columnCells) 28 = .ok (.imul, 1) := by decide +kernel
theorem d_X0_columnCells_29 : decode (yB m_X0_columnCells) 29 = .ok (.ishl, 1) := by decide +kernel
theorem d_X0_columnCells_30 : decode (yB m_X0_columnCells) 30 = .ok (.ior, 1) := by decide +kernel
theorem d_X0_columnCells_31 : decode (yB m_X0_columnCells) 31 = .ok (.istore_n 2, 1) := by decide +kernel
theorem d_X0_columnCells_32 : decode (yB m_X0_columnCells) 32 = .ok (.iinc 3 1, 3) := by decide +kernel
theorem d_X0_columnCells_35 : decode (yB m_X0_columnCells) 35 = .ok (.goto (-31), 3) := by decide +kernel
theorem d_X0_columnCells_38 : decode (yB m_X0_columnCells) 38 = .ok (.iload_n 2, 1) := by decide +kernel
theorem d_X0_columnCells_39 : decode (yB m_X0_columnCells) 39 = .ok (.ireturn, 1) := by decide +kernel
def fn_X0_columnCells_4 (a0 : Nat) (v1 : Int32) (D : zD) : Nat → Int32 → Int32 → Option Int32
  | 0, _, _ => none
  | n + 1, v2, v3 => (if (gI D a0 1) ≤ v3 then ((some v2)) else (zlet (v2 ||| ((v1 &&& (((1 : Int32) <<< ((gI D a0 0) &&& 31)) - (1 : Int32))) <<< (((gI D a0 0) * v3) &&& 31))) fun x2 => ((fn_X0_columnCells_4 a0 v1 D n) x2 (v3 + (1 : Int32)))))
def fn_X0_columnCells (a0 : Nat) (v1 : Int32) (D : zD) : Option Int32 := (fn_X0_columnCells_4 a0 v1 D zFU (0 : Int32) (0 : Int32))
theorem s_X0_columnCells_4 {X : zX} {Sh : zSh} {d : Nat} (hst : (zl X).stackTraces = false) (h0 : zSh0 Sh) (hd : 0 ≤ d) {a0 : Nat} {v1 : Int32} (h_a0 : a0 ∈ zI_0) (D : zD) : ∀ (n : Nat) (v2 : Int32) (v3 : Int32) , Rn X m_X0_columnCells (d + 1) 4 [(0, .ref a0), (1, .int v1), (2, .int v2), (3, .int v3)] [] (Sh, D) ((oP Sh D) (fn_X0_columnCells_4 a0 v1 D n v2 v3)) := by
  intro n
  induction n with
  | zero => intro v2 v3; exact Rn_none rfl
  | succ n hk4 =>
    intro v2 v3
    rw [fn_X0_columnCells_4]
    refine r_iload_n (pc := 4) 3 d_X0_columnCells_4 rfl rfl ?_
    refine r_aload_n (pc := 5) 0 d_X0_columnCells_5 rfl rfl ?_
    refine q_gI (pc := 6) g_X0_15 (LK_0 h0 h_a0) rfl d_X0_columnCells_6 ?_
    refine r_icmp_ge (f := (oP Sh D)) (pc := 9) 38 d_X0_columnCells_9 (by decide) (fun c1 => ?_) (fun c1 => ?_)
    · refine r_iload_n (pc := 38) 2 d_X0_columnCells_38 rfl rfl ?_
      exact r_iret (pc := 39) rfl d_X0_columnCells_39
    · refine r_iload_n (pc := 12) 2 d_X0_columnCells_12 rfl rfl ?_
      refine r_iload_n (pc := 13) 1 d_X0_columnCells_13 rfl rfl ?_
      refine r_iconst (pc := 14) (1 : Int32) d_X0_columnCells_14 rfl ?_
      refine r_aload_n (pc := 15) 0 d_X0_columnCells_15 rfl rfl ?_
      refine q_gI (pc := 16) g_X0_9 (LK_0 h0 h_a0) rfl d_X0_columnCells_16 ?_
      refine r_ishl (pc := 19) d_X0_columnCells_19 ?_
      refine r_iconst (pc := 20) (1 : Int32) d_X0_columnCells_20 rfl ?_
      refine r_isub (pc := 21) d_X0_columnCells_21 ?_
      refine r_iand (pc := 22) d_X0_columnCells_22 ?_
      refine r_aload_n (pc := 23) 0 d_X0_columnCells_23 rfl rfl ?_
      refine q_gI (pc := 24) g_X0_9 (LK_0 h0 h_a0) rfl d_X0_columnCells_24 ?_
      refine r_iload_n (pc := 27) 3 d_X0_columnCells_27 rfl rfl ?_
      refine r_imul (pc := 28) d_X0_columnCells_28 ?_
      refine r_ishl (pc := 29) d_X0_columnCells_29 ?_
      refine r_ior (pc := 30) d_X0_columnCells_30 ?_
      refine r_leti (f := (oP Sh D)) (fun x2 => ?_)
      refine r_istore_n (pc := 31) (ls' := [(2, .int x2), (0, .ref a0), (1, .int v1), (3, .int v3)]) d_X0_columnCells_31 rfl (Nat.le_of_ble_eq_true rfl) rfl ?_
      refine r_iinc (pc := 32) ((v3 + (1 : Int32))) 3 (ls' := [(3, .int (v3 + (1 : Int32))), (2, .int x2), (0, .ref a0), (1, .int v1)]) d_X0_columnCells_32 rfl rfl (Nat.le_of_ble_eq_true rfl) rfl ?_
      refine r_goto (pc := 35) 4 d_X0_columnCells_35 (by decide) ?_
      refine r_pick [2, 3, 1, 0] (ls' := [(0, .ref a0), (1, .int v1), (2, .int x2), (3, .int (v3 + (1 : Int32)))]) rfl ?_
      exact hk4 x2 (v3 + (1 : Int32)) 
theorem s_X0_columnCells {X : zX} {Sh : zSh} {d : Nat} (hst : (zl X).stackTraces = false) (h0 : zSh0 Sh) (hd : 1 ≤ d) {a0 : Nat} {v1 : Int32} (h_a0 : a0 ∈ zI_0) {D : zD} : Sd X m_X0_columnCells d [.ref a0, .int v1] (Sh, D) ((oP Sh D) (fn_X0_columnCells a0 v1 D)) := by
  obtain ⟨d, rfl⟩ : ∃ e, d = e + 1 := ⟨d - 1, by omega⟩
  replace hd : 0 ≤ d := by omega
  refine z_body ck_X0_columnCells rfl (Nat.le_of_ble_eq_true rfl) rfl hst ?_
  rw [fn_X0_columnCells]
  show Rn X m_X0_columnCells (d + 1) 0 [(0, .ref a0), (1, .int v1)] [] (Sh, D) _
  refine r_iconst (pc := 0) (0 : Int32) d_X0_columnCells_0 rfl ?_
  refine r_istore_n (pc := 1) (ls' := [(2, .int (0 : Int32)), (0, .ref a0), (1, .int v1)]) d_X0_columnCells_1 rfl (Nat.le_of_ble_eq_true rfl) rfl ?_
  refine r_iconst (pc := 2) (0 : Int32) d_X0_columnCells_2 rfl ?_
  refine r_istore_n (pc := 3) (ls' := [(3, .int (0 : Int32)), (2, .int (0 : Int32)), (0, .ref a0), (1, .int v1)]) d_X0_columnCells_3 rfl (Nat.le_of_ble_eq_true rfl) rfl ?_
  refine r_pick [2, 3, 1, 0] (ls' := [(0, .ref a0), (1, .int v1), (2, .int (0 : Int32)), (3, .int (0 : Int32))]) rfl ?_
  exact s_X0_columnCells_4 hst h0 hd h_a0 D zFU  (0 : Int32) (0 : Int32)
/-! CoveredSigns$Alphabet.within -/
theorem d_X0_within_0 : decode (yB m_X0_within) 0 = .ok (.iconst 0, 1) := by decide +kernel
theorem d_X0_within_1 : decode (yB m_X0_within) 1 = .ok (.istore 4, 2) := by decide +kernel
theorem d_X0_within_3 : decode (yB m_X0_within) 3 = .ok (.iconst 0, 1) := by decide +kernel
theorem d_X0_within_4 : decode (yB m_X0_within) 4 = .ok (.istore 5, 2) := by decide +kernel
theorem d_X0_within_6 : decode (yB m_X0_within) 6 = .ok (.iload 5, 2) := by decide +kernel
theorem d_X0_within_8 : decode (yB m_X0_within) 8 = .ok (.aload_n 0, 1) := by decide +kernel
theorem d_X0_within_9 : decode (yB m_X0_within) 9 = .ok (.getfield 40, 3) := by decide +kernel
theorem d_X0_within_12 : decode (yB m_X0_within) 12 = .ok (.if_icmp .ge 37, 3) := by decide +kernel
theorem d_X0_within_15 : decode (yB m_X0_within) 15 = .ok (.iload_n 2, 1) := by decide +kernel
theorem d_X0_within_16 : decode (yB m_X0_within) 16 = .ok (.aload_n 0, 1) := by decide +kernel
theorem d_X0_within_17 : decode (yB m_X0_within) 17 = .ok (.iload 5, 2) := by decide +kernel
theorem d_X0_within_19 : decode (yB m_X0_within) 19 = .ok (.invokevirtual 64, 3) := by decide +kernel
theorem d_X0_within_22 : decode (yB m_X0_within) 22 = .ok (.ixor, 1) := by decide +kernel
theorem d_X0_within_23 : decode (yB m_X0_within) 23 = .ok (.iload_n 1, 1) := by decide +kernel
theorem d_X0_within_24 : decode (yB m_X0_within) 24 = .ok (.iconst (-1), 1) := by decide +kernel
theorem d_X0_within_25 : decode (yB m_X0_within) 25 = .ok (.ixor, 1) := by decide +kernel
theorem d_X0_within_26 : decode (yB m_X0_within) 26 = .ok (.iand, 1) := by decide +kernel
theorem d_X0_within_27 : decode (yB m_X0_within) 27 = .ok (.invokestatic 67, 3) := by decide +kernel
theorem d_X0_within_30 : decode (yB m_X0_within) 30 = .ok (.iload_n 3, 1) := by decide +kernel
theorem d_X0_within_31 : decode (yB m_X0_within) 31 = .ok (.if_icmp .gt 12, 3) := by decide +kernel
theorem d_X0_within_34 : decode (yB m_X0_within) 34 = .ok (.iload 4, 2) := by decide +kernel
theorem d_X0_within_36 : decode (yB m_X0_within) 36 = .ok (.iconst 1, 1) := by decide +kernel
theorem d_X0_within_37 : decode (yB m_X0_within) 37 = .ok (.iload 5, 2) := by decide +kernel
theorem d_X0_within_39 : decode (yB m_X0_within) 39 = .ok (.ishl, 1) := by decide +kernel
theorem d_X0_within_40 : decode (yB m_X0_within) 40 = .ok (.ior, 1) := by decide +kernel
theorem d_X0_within_41 : decode (yB m_X0_within) 41 = .ok (.istore 4, 2) := by decide +kernel
theorem d_X0_within_43 : decode (yB m_X0_within) 43 = .ok (.iinc 5 1, 3) := by decide +kernel
theorem d_X0_within_46 : decode (yB m_X0_within) 46 = .ok (.goto (-40), 3) := by decide +kernel
theorem d_X0_within_49 : decode (yB m_X0_within) 49 = .ok (.iload 4, 2) := by decide +kernel
theorem d_X0_within_51 : decode (yB m_X0_within) 51 = .ok (.ireturn, 1) := by decide +kernel
def fn_X0_within_6 (a0 : Nat) (v1 : Int32) (v2 : Int32) (v3 : Int32) (D : zD) : Nat → Int32 → Int32 → Option Int32
  | 0, _, _ => none
  | n + 1, v4, v5 => (if (gI D a0 2) ≤ v5 then ((some v4)) else ((fn_X0_paintOf a0 v5 D).bind fun x2 => (fn_JI_bitCount ((v2 ^^^ x2) &&& (v1 ^^^ (-1 : Int32)))).bind fun x3 => (if v3 < x3 then (((fn_X0_within_6 a0 v1 v2 v3 D n) v4 (v5 + (1 : Int32)))) else (zlet (v4 ||| ((1 : Int32) <<< (v5 &&& 31))) fun x5 => ((fn_X0_within_6 a0 v1 v2 v3 D n) x5 (v5 + (1 : Int32)))))))
def fn_X0_within (a0 : Nat) (v1 : Int32) (v2 : Int32) (v3 : Int32) (D : zD) : Option Int32 := (fn_X0_within_6 a0 v1 v2 v3 D zFU (0 : Int32) (0 : Int32))
theorem s_X0_within_6 {X : zX} {Sh : zSh} {d : Nat} (hst : (zl X).stackTraces = false) (h0 : zSh0 Sh) (hd : 2 ≤ d) {a0 : Nat} {v1 : Int32} {v2 : Int32} {v3 : Int32} (h_a0 : a0 ∈ zI_0) (D : zD) : ∀ (n : Nat) (v4 : Int32) (v5 : Int32) , Rn X m_X0_within (d + 1) 6 [(0, .ref a0), (1, .int v1), (2, .int v2), (3, .int v3), (4, .int v4), (5, .int v5)] [] (Sh, D) ((oP Sh D) (fn_X0_within_6 a0 v1 v2 v3 D n v4 v5)) := by
  intro n
  induction n with
  | zero => intro v4 v5; exact Rn_none rfl
  | succ n hk6 =>
    intro v4 v5
    rw [fn_X0_within_6]
    refine r_iload (pc := 6) 5 d_X0_within_6 rfl ?_
    refine r_aload_n (pc := 8) 0 d_X0_within_8 rfl rfl ?_
    refine q_gI (pc := 9) g_X0_40 (LK_0 h0 h_a0) rfl d_X0_within_9 ?_
    refine r_icmp_ge (f := (oP Sh D)) (pc := 12) 49 d_X0_within_12 (by decide) (fun c1 => ?_) (fun c1 => ?_)
    · refine r_iload (pc := 49) 4 d_X0_within_49 rfl ?_
      exact r_iret (pc := 51) rfl d_X0_within_51
    · refine r_iload_n (pc := 15) 2 d_X0_within_15 rfl rfl ?_
      refine r_aload_n (pc := 16) 0 d_X0_within_16 rfl rfl ?_
      refine r_iload (pc := 17) 5 d_X0_within_17 rfl ?_
      refine q_cP (f := (oP Sh D)) (av := [.ref a0, .int v5]) (st := [.int v2]) (z_runV ck_X0_paintOf rfl ml_X0_64 ci_X0_paintOf cv_X0_paintOf (LK_0 h0 h_a0) (ci := 0) rfl rfl (Nat.le_of_ble_eq_true rfl) d_X0_within_19) (s_X0_paintOf hst h0 (by omega) h_a0) kp_P (fun x2 _ => ?_)
      refine r_ixor (pc := 22) d_X0_within_22 ?_
      refine r_iload_n (pc := 23) 1 d_X0_within_23 rfl rfl ?_
      refine r_iconst (pc := 24) (-1 : Int32) d_X0_within_24 rfl ?_
      refine r_ixor (pc := 25) d_X0_within_25 ?_
      refine r_iand (pc := 26) d_X0_within_26 ?_
      refine q_cP (f := (oP Sh D)) (av := [.int ((v2 ^^^ x2) &&& (v1 ^^^ (-1 : Int32)))]) (st := []) (z_runS ck_JI_bitCount rfl ml_X0_67 cs_JI_bitCount rfl (Nat.le_of_ble_eq_true rfl) d_X0_within_27) (s_JI_bitCount hst h0 (by omega)) kp_P (fun x3 _ => ?_)
      refine r_iload_n (pc := 30) 3 d_X0_within_30 rfl rfl ?_
      refine r_icmp_gt (f := (oP Sh D)) (pc := 31) 43 d_X0_within_31 (by decide) (fun c4 => ?_) (fun c4 => ?_)
      · refine r_iinc (pc := 43) ((v5 + (1 : Int32))) 5 (ls' := [(5, .int (v5 + (1 : Int32))), (0, .ref a0), (1, .int v1), (2, .int v2), (3, .int v3), (4, .int v4)]) d_X0_within_43 rfl rfl (Nat.le_of_ble_eq_true rfl) rfl ?_
        refine r_goto (pc := 46) 6 d_X0_within_46 (by decide) ?_
        refine r_pick [1, 2, 3, 4, 5, 0] (ls' := [(0, .ref a0), (1, .int v1), (2, .int v2), (3, .int v3), (4, .int v4), (5, .int (v5 + (1 : Int32)))]) rfl ?_
        exact hk6 v4 (v5 + (1 : Int32)) 
      · refine r_iload (pc := 34) 4 d_X0_within_34 rfl ?_
        refine r_iconst (pc := 36) (1 : Int32) d_X0_within_36 rfl ?_
        refine r_iload (pc := 37) 5 d_X0_within_37 rfl ?_
        refine r_ishl (pc := 39) d_X0_within_39 ?_
        refine r_ior (pc := 40) d_X0_within_40 ?_
        refine r_leti (f := (oP Sh D)) (fun x5 => ?_)
        refine r_istore (pc := 41) (ls' := [(4, .int x5), (0, .ref a0), (1, .int v1), (2, .int v2), (3, .int v3), (5, .int v5)]) d_X0_within_41 (Nat.le_of_ble_eq_true rfl) rfl ?_
        refine r_iinc (pc := 43) ((v5 + (1 : Int32))) 5 (ls' := [(5, .int (v5 + (1 : Int32))), (4, .int x5), (0, .ref a0), (1, .int v1), (2, .int v2), (3, .int v3)]) d_X0_within_43 rfl rfl (Nat.le_of_ble_eq_true rfl) rfl ?_
        refine r_goto (pc := 46) 6 d_X0_within_46 (by decide) ?_
        refine r_pick [2, 3, 4, 5, 1, 0] (ls' := [(0, .ref a0), (1, .int v1), (2, .int v2), (3, .int v3), (4, .int x5), (5, .int (v5 + (1 : Int32)))]) rfl ?_
        exact hk6 x5 (v5 + (1 : Int32)) 
theorem s_X0_within {X : zX} {Sh : zSh} {d : Nat} (hst : (zl X).stackTraces = false) (h0 : zSh0 Sh) (hd : 3 ≤ d) {a0 : Nat} {v1 : Int32} {v2 : Int32} {v3 : Int32} (h_a0 : a0 ∈ zI_0) {D : zD} : Sd X m_X0_within d [.ref a0, .int v1, .int v2, .int v3] (Sh, D) ((oP Sh D) (fn_X0_within a0 v1 v2 v3 D)) := by
  obtain ⟨d, rfl⟩ : ∃ e, d = e + 1 := ⟨d - 1, by omega⟩
  replace hd : 2 ≤ d := by omega
  refine z_body ck_X0_within rfl (Nat.le_of_ble_eq_true rfl) rfl hst ?_
  rw [fn_X0_within]
  show Rn X m_X0_within (d + 1) 0 [(0, .ref a0), (1, .int v1), (2, .int v2), (3, .int v3)] [] (Sh, D) _
  refine r_iconst (pc := 0) (0 : Int32) d_X0_within_0 rfl ?_
  refine r_istore (pc := 1) (ls' := [(4, .int (0 : Int32)), (0, .ref a0), (1, .int v1), (2, .int v2), (3, .int v3)]) d_X0_within_1 (Nat.le_of_ble_eq_true rfl) rfl ?_
  refine r_iconst (pc := 3) (0 : Int32) d_X0_within_3 rfl ?_
  refine r_istore (pc := 4) (ls' := [(5, .int (0 : Int32)), (4, .int (0 : Int32)), (0, .ref a0), (1, .int v1), (2, .int v2), (3, .int v3)]) d_X0_within_4 (Nat.le_of_ble_eq_true rfl) rfl ?_
  refine r_pick [2, 3, 4, 5, 1, 0] (ls' := [(0, .ref a0), (1, .int v1), (2, .int v2), (3, .int v3), (4, .int (0 : Int32)), (5, .int (0 : Int32))]) rfl ?_
  exact s_X0_within_6 hst h0 hd h_a0 D zFU  (0 : Int32) (0 : Int32)
/-! CoveredSigns$Alphabet.likest -/
theorem d_X0_likest_0 : decode (yB m_X0_likest) 0 = .ok (.iconst (-1), 1) := by decide +kernel
theorem d_X0_likest_1 : decode (yB m_X0_likest) 1 = .ok (.istore_n 3, 1) := by decide +kernel
theorem d_X0_likest_2 : decode (yB m_X0_likest) 2 = .ok (.bipush 31, 2) := by decide +kernel
theorem d_X0_likest_4 : decode (yB m_X0_likest) 4 = .ok (.istore 4, 2) := by decide +kernel
theorem d_X0_likest_6 : decode (yB m_X0_likest) 6 = .ok (.iconst 0, 1) := by decide +kernel
theorem d_X0_likest_7 : decode (yB m_X0_likest) 7 = .ok (.istore 5, 2) := by decide +kernel
theorem d_X0_likest_9 : decode (yB m_X0_likest) 9 = .ok (.iload 5, 2) := by decide +kernel
theorem d_X0_likest_11 : decode (yB m_X0_likest) 11 = .ok (.aload_n 0, 1) := by decide +kernel
theorem d_X0_likest_12 : decode (yB m_X0_likest) 12 = .ok (.getfield 40, 3) := by decide +kernel
theorem d_X0_likest_15 : decode (yB m_X0_likest) 15 = .ok (.if_icmp .ge 40, 3) := by decide +kernel
theorem d_X0_likest_18 : decode (yB m_X0_likest) 18 = .ok (.iload_n 2, 1) := by decide +kernel
theorem d_X0_likest_19 : decode (yB m_X0_likest) 19 = .ok (.aload_n 0, 1) := by decide +kernel
theorem d_X0_likest_20 : decode (yB m_X0_likest) 20 = .ok (.iload 5, 2) := by decide +kernel
theorem d_X0_likest_22 : decode (yB m_X0_likest) 22 = .ok (.invokevirtual 64, 3) := by decide +kernel
theorem d_X0_likest_25 : decode (yB m_X0_likest) 25 = .ok (.ixor, 1) := by decide +kernel
theorem d_X0_likest_26 : decode (yB m_X0_likest) 26 = .ok (.iload_n 1, 1) := by decide +kernel
theorem d_X0_likest_27 : decode (yB m_X0_likest) 27 = .ok (.iconst (-1), 1) := by decide +kernel
theorem d_X0_likest_28 : decode (yB m_X0_likest) 28 = .ok (.ixor, 1) := by decide +kernel
theorem d_X0_likest_29 : decode (yB m_X0_likest) 29 = .ok (.iand, 1) := by decide +kernel
theorem d_X0_likest_30 : decode (yB m_X0_likest) 30 = .ok (.invokestatic 67, 3) := by decide +kernel
theorem d_X0_likest_33 : decode (yB m_X0_likest) 33 = .ok (.istore 6, 2) := by decide +kernel
theorem d_X0_likest_35 : decode (yB m_X0_likest) 35 = .ok (.iload 6, 2) := by decide +kernel
theorem d_X0_likest_37 : decode (yB m_X0_likest) 37 = .ok (.iload 4, 2) := by decide +kernel
theorem d_X0_likest_39 : decode (yB m_X0_likest) 39 = .ok (.if_icmp .ge 10, 3) := by decide +kernel
theorem d_X0_likest_42 : decode (yB m_X0_likest) 42 = .ok (.iload 6, 2) := by decide +kernel
theorem d_X0_likest_44 : decode (yB m_X0_likest) 44 = .ok (.istore 4, 2) := by decide +kernel
theorem d_X0_likest_46 : decode (yB m_X0_likest) 46 = .ok (.iload 5, 2) := by decide +kernel
theorem d_X0_likest_48 : decode (yB m_X0_likest) 48 = .ok (.istore_n 3, 1) := by decide +kernel
theorem d_X0_likest_49 : decode (yB m_X0_likest) 49 = .ok (.iinc 5 1, 3) := by decide +kernel
theorem d_X0_likest_52 : decode (yB m_X0_likest) 52 = .ok (.goto (-43), 3) := by decide +kernel
theorem d_X0_likest_55 : decode (yB m_X0_likest) 55 = .ok (.iload_n 3, 1) := by decide +kernel
theorem d_X0_likest_56 : decode (yB m_X0_likest) 56 = .ok (.ireturn, 1) := by decide +kernel
def fn_X0_likest_9 (a0 : Nat) (v1 : Int32) (v2 : Int32) (D : zD) : Nat → Int32 → Int32 → Int32 → Option Int32
  | 0, _, _, _ => none
  | n + 1, v3, v4, v5 => (if (gI D a0 2) ≤ v5 then ((some v3)) else ((fn_X0_paintOf a0 v5 D).bind fun x2 => (fn_JI_bitCount ((v2 ^^^ x2) &&& (v1 ^^^ (-1 : Int32)))).bind fun x3 => (if v4 ≤ x3 then (((fn_X0_likest_9 a0 v1 v2 D n) v3 v4 (v5 + (1 : Int32)))) else (((fn_X0_likest_9 a0 v1 v2 D n) v5 x3 (v5 + (1 : Int32)))))))
def fn_X0_likest (a0 : Nat) (v1 : Int32) (v2 : Int32) (D : zD) : Option Int32 := (fn_X0_likest_9 a0 v1 v2 D zFU (-1 : Int32) (31 : Int32) (0 : Int32))
theorem s_X0_likest_9 {X : zX} {Sh : zSh} {d : Nat} (hst : (zl X).stackTraces = false) (h0 : zSh0 Sh) (hd : 2 ≤ d) {a0 : Nat} {v1 : Int32} {v2 : Int32} (h_a0 : a0 ∈ zI_0) (D : zD) : ∀ (n : Nat) (v3 : Int32) (v4 : Int32) (v5 : Int32) , Rn X m_X0_likest (d + 1) 9 [(0, .ref a0), (1, .int v1), (2, .int v2), (3, .int v3), (4, .int v4), (5, .int v5)] [] (Sh, D) ((oP Sh D) (fn_X0_likest_9 a0 v1 v2 D n v3 v4 v5)) := by
  intro n
  induction n with
  | zero => intro v3 v4 v5; exact Rn_none rfl
  | succ n hk9 =>
    intro v3 v4 v5
    rw [fn_X0_likest_9]
    refine r_iload (pc := 9) 5 d_X0_likest_9 rfl ?_
    refine r_aload_n (pc := 11) 0 d_X0_likest_11 rfl rfl ?_
    refine q_gI (pc := 12) g_X0_40 (LK_0 h0 h_a0) rfl d_X0_likest_12 ?_
    refine r_icmp_ge (f := (oP Sh D)) (pc := 15) 55 d_X0_likest_15 (by decide) (fun c1 => ?_) (fun c1 => ?_)
    · refine r_iload_n (pc := 55) 3 d_X0_likest_55 rfl rfl ?_
      exact r_iret (pc := 56) rfl d_X0_likest_56
    · refine r_iload_n (pc := 18) 2 d_X0_likest_18 rfl rfl ?_
      refine r_aload_n (pc := 19) 0 d_X0_likest_19 rfl rfl ?_
      refine r_iload (pc := 20) 5 d_X0_likest_20 rfl ?_
      refine q_cP (f := (oP Sh D)) (av := [.ref a0, .int v5]) (st := [.int v2]) (z_runV ck_X0_paintOf rfl ml_X0_64 ci_X0_paintOf cv_X0_paintOf (LK_0 h0 h_a0) (ci := 0) rfl rfl (Nat.le_of_ble_eq_true rfl) d_X0_likest_22) (s_X0_paintOf hst h0 (by omega) h_a0) kp_P (fun x2 _ => ?_)
      refine r_ixor (pc := 25) d_X0_likest_25 ?_
      refine r_iload_n (pc := 26) 1 d_X0_likest_26 rfl rfl ?_
      refine r_iconst (pc := 27) (-1 : Int32) d_X0_likest_27 rfl ?_
      refine r_ixor (pc := 28) d_X0_likest_28 ?_
      refine r_iand (pc := 29) d_X0_likest_29 ?_
      refine q_cP (f := (oP Sh D)) (av := [.int ((v2 ^^^ x2) &&& (v1 ^^^ (-1 : Int32)))]) (st := []) (z_runS ck_JI_bitCount rfl ml_X0_67 cs_JI_bitCount rfl (Nat.le_of_ble_eq_true rfl) d_X0_likest_30) (s_JI_bitCount hst h0 (by omega)) kp_P (fun x3 _ => ?_)
      refine r_istore (pc := 33) (ls' := [(6, .int x3), (0, .ref a0), (1, .int v1), (2, .int v2), (3, .int v3), (4, .int v4), (5, .int v5)]) d_X0_likest_33 (Nat.le_of_ble_eq_true rfl) rfl ?_
      refine r_iload (pc := 35) 0 d_X0_likest_35 rfl ?_
      refine r_iload (pc := 37) 5 d_X0_likest_37 rfl ?_
      refine r_icmp_ge (f := (oP Sh D)) (pc := 39) 49 d_X0_likest_39 (by decide) (fun c4 => ?_) (fun c4 => ?_)
      · refine r_iinc (pc := 49) ((v5 + (1 : Int32))) 6 (ls' := [(5, .int (v5 + (1 : Int32))), (6, .int x3), (0, .ref a0), (1, .int v1), (2, .int v2), (3, .int v3), (4, .int v4)]) d_X0_likest_49 rfl rfl (Nat.le_of_ble_eq_true rfl) rfl ?_
        refine r_goto (pc := 52) 9 d_X0_likest_52 (by decide) ?_
        refine r_pick [2, 3, 4, 5, 6, 0] (ls' := [(0, .ref a0), (1, .int v1), (2, .int v2), (3, .int v3), (4, .int v4), (5, .int (v5 + (1 : Int32)))]) rfl ?_
        exact hk9 v3 v4 (v5 + (1 : Int32)) 
      · refine r_iload (pc := 42) 0 d_X0_likest_42 rfl ?_
        refine r_istore (pc := 44) (ls' := [(4, .int x3), (6, .int x3), (0, .ref a0), (1, .int v1), (2, .int v2), (3, .int v3), (5, .int v5)]) d_X0_likest_44 (Nat.le_of_ble_eq_true rfl) rfl ?_
        refine r_iload (pc := 46) 6 d_X0_likest_46 rfl ?_
        refine r_istore_n (pc := 48) (ls' := [(3, .int v5), (4, .int x3), (6, .int x3), (0, .ref a0), (1, .int v1), (2, .int v2), (5, .int v5)]) d_X0_likest_48 rfl (Nat.le_of_ble_eq_true rfl) rfl ?_
        refine r_iinc (pc := 49) ((v5 + (1 : Int32))) 6 (ls' := [(5, .int (v5 + (1 : Int32))), (3, .int v5), (4, .int x3), (6, .int x3), (0, .ref a0), (1, .int v1), (2, .int v2)]) d_X0_likest_49 rfl rfl (Nat.le_of_ble_eq_true rfl) rfl ?_
        refine r_goto (pc := 52) 9 d_X0_likest_52 (by decide) ?_
        refine r_pick [4, 5, 6, 1, 2, 0] (ls' := [(0, .ref a0), (1, .int v1), (2, .int v2), (3, .int v5), (4, .int x3), (5, .int (v5 + (1 : Int32)))]) rfl ?_
        exact hk9 v5 x3 (v5 + (1 : Int32)) 
theorem s_X0_likest {X : zX} {Sh : zSh} {d : Nat} (hst : (zl X).stackTraces = false) (h0 : zSh0 Sh) (hd : 3 ≤ d) {a0 : Nat} {v1 : Int32} {v2 : Int32} (h_a0 : a0 ∈ zI_0) {D : zD} : Sd X m_X0_likest d [.ref a0, .int v1, .int v2] (Sh, D) ((oP Sh D) (fn_X0_likest a0 v1 v2 D)) := by
  obtain ⟨d, rfl⟩ : ∃ e, d = e + 1 := ⟨d - 1, by omega⟩
  replace hd : 2 ≤ d := by omega
  refine z_body ck_X0_likest rfl (Nat.le_of_ble_eq_true rfl) rfl hst ?_
  rw [fn_X0_likest]
  show Rn X m_X0_likest (d + 1) 0 [(0, .ref a0), (1, .int v1), (2, .int v2)] [] (Sh, D) _
  refine r_iconst (pc := 0) (-1 : Int32) d_X0_likest_0 rfl ?_
  refine r_istore_n (pc := 1) (ls' := [(3, .int (-1 : Int32)), (0, .ref a0), (1, .int v1), (2, .int v2)]) d_X0_likest_1 rfl (Nat.le_of_ble_eq_true rfl) rfl ?_
  refine r_bipush (pc := 2) (31 : Int32) d_X0_likest_2 rfl ?_
  refine r_istore (pc := 4) (ls' := [(4, .int (31 : Int32)), (3, .int (-1 : Int32)), (0, .ref a0), (1, .int v1), (2, .int v2)]) d_X0_likest_4 (Nat.le_of_ble_eq_true rfl) rfl ?_
  refine r_iconst (pc := 6) (0 : Int32) d_X0_likest_6 rfl ?_
  refine r_istore (pc := 7) (ls' := [(5, .int (0 : Int32)), (4, .int (31 : Int32)), (3, .int (-1 : Int32)), (0, .ref a0), (1, .int v1), (2, .int v2)]) d_X0_likest_7 (Nat.le_of_ble_eq_true rfl) rfl ?_
  refine r_pick [3, 4, 5, 2, 1, 0] (ls' := [(0, .ref a0), (1, .int v1), (2, .int v2), (3, .int (-1 : Int32)), (4, .int (31 : Int32)), (5, .int (0 : Int32))]) rfl ?_
  exact s_X0_likest_9 hst h0 hd h_a0 D zFU  (-1 : Int32) (31 : Int32) (0 : Int32)
/-! CoveredSigns$Alphabet.unlikeCells -/
theorem d_X0_unlikeCells_0 : decode (yB m_X0_unlikeCells) 0 = .ok (.aload_n 0, 1) := by decide +kernel
theorem d_X0_unlikeCells_1 : decode (yB m_X0_unlikeCells) 1 = .ok (.iload_n 1, 1) := by decide +kernel
theorem d_X0_unlikeCells_2 : decode (yB m_X0_unlikeCells) 2 = .ok (.invokevirtual 64, 3) := by decide +kernel
theorem d_X0_unlikeCells_5 : decode (yB m_X0_unlikeCells) 5 = .ok (.aload_n 0, 1) := by decide +kernel
theorem d_X0_unlikeCells_6 : decode (yB m_X0_unlikeCells) 6 = .ok (.iload_n 2, 1) := by decide +kernel
theorem d_X0_unlikeCells_7 : decode (yB m_X0_unlikeCells) 7 = .ok (.invokevirtual 64, 3) := by decide +kernel
theorem d_X0_unlikeCells_10 : decode (yB m_X0_unlikeCells) 10 = .ok (.ixor, 1) := by decide +kernel
theorem d_X0_unlikeCells_11 : decode (yB m_X0_unlikeCells) 11 = .ok (.invokestatic 67, 3) := by decide +kernel
theorem d_X0_unlikeCells_14 : decode (yB m_X0_unlikeCells) 14 = .ok (.ireturn, 1) := by decide +kernel
def fn_X0_unlikeCells (a0 : Nat) (v1 : Int32) (v2 : Int32) (D : zD) : Option Int32 := (fn_X0_paintOf a0 v1 D).bind fun x1 => (fn_X0_paintOf a0 v2 D).bind fun x2 => (fn_JI_bitCount (x1 ^^^ x2)).bind fun x3 => (some x3)
theorem s_X0_unlikeCells {X : zX} {Sh : zSh} {d : Nat} (hst : (zl X).stackTraces = false) (h0 : zSh0 Sh) (hd : 3 ≤ d) {a0 : Nat} {v1 : Int32} {v2 : Int32} (h_a0 : a0 ∈ zI_0) {D : zD} : Sd X m_X0_unlikeCells d [.ref a0, .int v1, .int v2] (Sh, D) ((oP Sh D) (fn_X0_unlikeCells a0 v1 v2 D)) := by
  obtain ⟨d, rfl⟩ : ∃ e, d = e + 1 := ⟨d - 1, by omega⟩
  replace hd : 2 ≤ d := by omega
  refine z_body ck_X0_unlikeCells rfl (Nat.le_of_ble_eq_true rfl) rfl hst ?_
  rw [fn_X0_unlikeCells]
  show Rn X m_X0_unlikeCells (d + 1) 0 [(0, .ref a0), (1, .int v1), (2, .int v2)] [] (Sh, D) _
  refine r_aload_n (pc := 0) 0 d_X0_unlikeCells_0 rfl rfl ?_
  refine r_iload_n (pc := 1) 1 d_X0_unlikeCells_1 rfl rfl ?_
  refine q_cP (f := (oP Sh D)) (av := [.ref a0, .int v1]) (st := []) (z_runV ck_X0_paintOf rfl ml_X0_64 ci_X0_paintOf cv_X0_paintOf (LK_0 h0 h_a0) (ci := 0) rfl rfl (Nat.le_of_ble_eq_true rfl) d_X0_unlikeCells_2) (s_X0_paintOf hst h0 (by omega) h_a0) kp_P (fun x1 _ => ?_)
  refine r_aload_n (pc := 5) 0 d_X0_unlikeCells_5 rfl rfl ?_
  refine r_iload_n (pc := 6) 2 d_X0_unlikeCells_6 rfl rfl ?_
  refine q_cP (f := (oP Sh D)) (av := [.ref a0, .int v2]) (st := [.int x1]) (z_runV ck_X0_paintOf rfl ml_X0_64 ci_X0_paintOf cv_X0_paintOf (LK_0 h0 h_a0) (ci := 0) rfl rfl (Nat.le_of_ble_eq_true rfl) d_X0_unlikeCells_7) (s_X0_paintOf hst h0 (by omega) h_a0) kp_P (fun x2 _ => ?_)
  refine r_ixor (pc := 10) d_X0_unlikeCells_10 ?_
  refine q_cP (f := (oP Sh D)) (av := [.int (x1 ^^^ x2)]) (st := []) (z_runS ck_JI_bitCount rfl ml_X0_67 cs_JI_bitCount rfl (Nat.le_of_ble_eq_true rfl) d_X0_unlikeCells_11) (s_JI_bitCount hst h0 (by omega)) kp_P (fun x3 _ => ?_)
  exact r_iret (pc := 14) rfl d_X0_unlikeCells_14
/-! CoveredSigns$Alphabet.unlikestPair -/
theorem d_X0_unlikestPair_0 : decode (yB m_X0_unlikestPair) 0 = .ok (.iconst (-1), 1) := by decide +kernel
theorem d_X0_unlikestPair_1 : decode (yB m_X0_unlikestPair) 1 = .ok (.istore_n 2, 1) := by decide +kernel
theorem d_X0_unlikestPair_2 : decode (yB m_X0_unlikestPair) 2 = .ok (.iconst (-1), 1) := by decide +kernel
theorem d_X0_unlikestPair_3 : decode (yB m_X0_unlikestPair) 3 = .ok (.istore_n 3, 1) := by decide +kernel
theorem d_X0_unlikestPair_4 : decode (yB m_X0_unlikestPair) 4 = .ok (.iconst 0, 1) := by decide +kernel
theorem d_X0_unlikestPair_5 : decode (yB m_X0_unlikestPair) 5 = .ok (.istore 4, 2) := by decide +kernel
theorem d_X0_unlikestPair_7 : decode (yB m_X0_unlikestPair) 7 = .ok (.iload 4, 2) := by decide +kernel
theorem d_X0_unlikestPair_9 : decode (yB m_X0_unlikestPair) 9 = .ok (.aload_n 0, 1) := by decide +kernel
theorem d_X0_unlikestPair_10 : decode (yB m_X0_unlikestPair) 10 = .ok (.getfield 40, 3) := by decide +kernel
theorem d_X0_unlikestPair_13 : decode (yB m_X0_unlikestPair) 13 = .ok (.if_icmp .ge 80, 3) := by decide +kernel
theorem d_X0_unlikestPair_16 : decode (yB m_X0_unlikestPair) 16 = .ok (.iload 4, 2) := by decide +kernel
theorem d_X0_unlikestPair_18 : decode (yB m_X0_unlikestPair) 18 = .ok (.iconst 1, 1) := by decide +kernel
theorem d_X0_unlikestPair_19 : decode (yB m_X0_unlikestPair) 19 = .ok (.iadd, 1) := by decide +kernel
theorem d_X0_unlikestPair_20 : decode (yB m_X0_unlikestPair) 20 = .ok (.istore 5, 2) := by decide +kernel
theorem d_X0_unlikestPair_22 : decode (yB m_X0_unlikestPair) 22 = .ok (.iload 5, 2) := by decide +kernel
theorem d_X0_unlikestPair_24 : decode (yB m_X0_unlikestPair) 24 = .ok (.aload_n 0, 1) := by decide +kernel
theorem d_X0_unlikestPair_25 : decode (yB m_X0_unlikestPair) 25 = .ok (.getfield 40, 3) := by decide +kernel
theorem d_X0_unlikestPair_28 : decode (yB m_X0_unlikestPair) 28 = .ok (.if_icmp .ge 59, 3) := by decide +kernel
theorem d_X0_unlikestPair_31 : decode (yB m_X0_unlikestPair) 31 = .ok (.aload_n 0, 1) := by decide +kernel
theorem d_X0_unlikestPair_32 : decode (yB m_X0_unlikestPair) 32 = .ok (.iload 4, 2) := by decide +kernel
theorem d_X0_unlikestPair_34 : decode (yB m_X0_unlikestPair) 34 = .ok (.invokevirtual 72, 3) := by decide +kernel
theorem d_X0_unlikestPair_37 : decode (yB m_X0_unlikestPair) 37 = .ok (.iload_n 1, 1) := by decide +kernel
theorem d_X0_unlikestPair_38 : decode (yB m_X0_unlikestPair) 38 = .ok (.if_icmp .ne 43, 3) := by decide +kernel
theorem d_X0_unlikestPair_41 : decode (yB m_X0_unlikestPair) 41 = .ok (.aload_n 0, 1) := by decide +kernel
theorem d_X0_unlikestPair_42 : decode (yB m_X0_unlikestPair) 42 = .ok (.iload 5, 2) := by decide +kernel
theorem d_X0_unlikestPair_44 : decode (yB m_X0_unlikestPair) 44 = .ok (.invokevirtual 72, 3) := by decide +kernel
theorem d_X0_unlikestPair_47 : decode (yB m_X0_unlikestPair) 47 = .ok (.iload_n 1, 1) := by decide +kernel
theorem d_X0_unlikestPair_48 : decode (yB m_X0_unlikestPair) 48 = .ok (.if_icmp .ne 33, 3) := by decide +kernel
theorem d_X0_unlikestPair_51 : decode (yB m_X0_unlikestPair) 51 = .ok (.aload_n 0, 1) := by decide +kernel
theorem d_X0_unlikestPair_52 : decode (yB m_X0_unlikestPair) 52 = .ok (.iload 4, 2) := by decide +kernel
theorem d_X0_unlikestPair_54 : decode (yB m_X0_unlikestPair) 54 = .ok (.iload 5, 2) := by decide +kernel
theorem d_X0_unlikestPair_56 : decode (yB m_X0_unlikestPair) 56 = .ok (.invokevirtual 75, 3) := by decide +kernel
theorem d_X0_unlikestPair_59 : decode (yB m_X0_unlikestPair) 59 = .ok (.iload_n 3, 1) := by decide +kernel
theorem d_X0_unlikestPair_60 : decode (yB m_X0_unlikestPair) 60 = .ok (.if_icmp .le 21, 3) := by decide +kernel
theorem d_X0_unlikestPair_63 : decode (yB m_X0_unlikestPair) 63 = .ok (.aload_n 0, 1) := by decide +kernel
theorem d_X0_unlikestPair_64 : decode (yB m_X0_unlikestPair) 64 = .ok (.iload 4, 2) := by decide +kernel
theorem d_X0_unlikestPair_66 : decode (yB m_X0_unlikestPair) 66 = .ok (.iload 5, 2) := by decide +kernel
theorem d_X0_unlikestPair_68 : decode (yB m_X0_unlikestPair) 68 = .ok (.invokevirtual 75, 3) := by decide +kernel
theorem d_X0_unlikestPair_71 : decode (yB m_X0_unlikestPair) 71 = .ok (.istore_n 3, 1) := by decide +kernel
theorem d_X0_unlikestPair_72 : decode (yB m_X0_unlikestPair) 72 = .ok (.bipush 100, 2) := by decide +kernel
theorem d_X0_unlikestPair_74 : decode (yB m_X0_unlikestPair) 74 = .ok (.iload 4, 2) := by decide +kernel
theorem d_X0_unlikestPair_76 : decode (yB m_X0_unlikestPair) 76 = .ok (.imul, 1) := by decide +kernel
theorem d_X0_unlikestPair_77 : decode (yB m_X0_unlikestPair) 77 = .ok (.iload 5, 2) := by decide +kernel
theorem d_X0_unlikestPair_79 : decode (yB m_X0_unlikestPair) 79 = .ok (.iadd, 1) := by decide +kernel
theorem d_X0_unlikestPair_80 : decode (yB m_X0_unlikestPair) 80 = .ok (.istore_n 2, 1) := by decide +kernel
theorem d_X0_unlikestPair_81 : decode (yB m_X0_unlikestPair) 81 = .ok (.iinc 5 1, 3) := by decide +kernel
theorem d_X0_unlikestPair_84 : decode (yB m_X0_unlikestPair) 84 = .ok (.goto (-62), 3) := by decide +kernel
theorem d_X0_unlikestPair_87 : decode (yB m_X0_unlikestPair) 87 = .ok (.iinc 4 1, 3) := by decide +kernel
theorem d_X0_unlikestPair_90 : decode (yB m_X0_unlikestPair) 90 = .ok (.goto (-83), 3) := by decide +kernel
theorem d_X0_unlikestPair_93 : decode (yB m_X0_unlikestPair) 93 = .ok (.iload_n 2, 1) := by decide +kernel
theorem d_X0_unlikestPair_94 : decode (yB m_X0_unlikestPair) 94 = .ok (.ireturn, 1) := by decide +kernel
def fn_X0_unlikestPair_22 (a0 : Nat) (v1 : Int32) (D : zD) (k7 : Int32 → Int32 → Int32 → Option Int32) : Nat → Int32 → Int32 → Int32 → Int32 → Option Int32
  | 0, _, _, _, _ => none
  | n + 1, v2, v3, v4, v5 => (if (gI D a0 2) ≤ v5 then ((k7 v2 v3 (v4 + (1 : Int32)))) else ((fn_X0_familyOf a0 v4 D).bind fun x4 => (if x4 = v1 then ((fn_X0_familyOf a0 v5 D).bind fun x6 => (if x6 = v1 then ((fn_X0_unlikeCells a0 v4 v5 D).bind fun x8 => (if x8 ≤ v3 then (((fn_X0_unlikestPair_22 a0 v1 D k7 n) v2 v3 v4 (v5 + (1 : Int32)))) else ((fn_X0_unlikeCells a0 v4 v5 D).bind fun x10 => zlet (((100 : Int32) * v4) + v5) fun x11 => ((fn_X0_unlikestPair_22 a0 v1 D k7 n) x11 x10 v4 (v5 + (1 : Int32)))))) else (((fn_X0_unlikestPair_22 a0 v1 D k7 n) v2 v3 v4 (v5 + (1 : Int32)))))) else (((fn_X0_unlikestPair_22 a0 v1 D k7 n) v2 v3 v4 (v5 + (1 : Int32)))))))
def fn_X0_unlikestPair_7 (a0 : Nat) (v1 : Int32) (D : zD) : Nat → Int32 → Int32 → Int32 → Option Int32
  | 0, _, _, _ => none
  | n + 1, v2, v3, v4 => (if (gI D a0 2) ≤ v4 then ((some v2)) else (zlet (v4 + (1 : Int32)) fun x2 => (fn_X0_unlikestPair_22 a0 v1 D (fn_X0_unlikestPair_7 a0 v1 D n) zFU v2 v3 v4 x2)))
def fn_X0_unlikestPair (a0 : Nat) (v1 : Int32) (D : zD) : Option Int32 := (fn_X0_unlikestPair_7 a0 v1 D zFU (-1 : Int32) (-1 : Int32) (0 : Int32))
theorem s_X0_unlikestPair_22 {X : zX} {Sh : zSh} {d : Nat} (hst : (zl X).stackTraces = false) (h0 : zSh0 Sh) (hd : 3 ≤ d) {a0 : Nat} {v1 : Int32} (h_a0 : a0 ∈ zI_0) (D : zD) (k7 : Int32 → Int32 → Int32 → Option Int32) (hk7 : ∀ (v2 : Int32) (v3 : Int32) (v4 : Int32) , Rn X m_X0_unlikestPair (d + 1) 7 [(0, .ref a0), (1, .int v1), (2, .int v2), (3, .int v3), (4, .int v4)] [] (Sh, D) ((oP Sh D) (k7 v2 v3 v4))) : ∀ (n : Nat) (v2 : Int32) (v3 : Int32) (v4 : Int32) (v5 : Int32) , Rn X m_X0_unlikestPair (d + 1) 22 [(0, .ref a0), (1, .int v1), (2, .int v2), (3, .int v3), (4, .int v4), (5, .int v5)] [] (Sh, D) ((oP Sh D) (fn_X0_unlikestPair_22 a0 v1 D k7 n v2 v3 v4 v5)) := by
  intro n
  induction n with
  | zero => intro v2 v3 v4 v5; exact Rn_none rfl
  | succ n hk22 =>
    intro v2 v3 v4 v5
    rw [fn_X0_unlikestPair_22]
    refine r_iload (pc := 22) 5 d_X0_unlikestPair_22 rfl ?_
    refine r_aload_n (pc := 24) 0 d_X0_unlikestPair_24 rfl rfl ?_
    refine q_gI (pc := 25) g_X0_40 (LK_0 h0 h_a0) rfl d_X0_unlikestPair_25 ?_
    refine r_icmp_ge (f := (oP Sh D)) (pc := 28) 87 d_X0_unlikestPair_28 (by decide) (fun c3 => ?_) (fun c3 => ?_)
    · refine r_iinc (pc := 87) ((v4 + (1 : Int32))) 4 (ls' := [(4, .int (v4 + (1 : Int32))), (0, .ref a0), (1, .int v1), (2, .int v2), (3, .int v3), (5, .int v5)]) d_X0_unlikestPair_87 rfl rfl (Nat.le_of_ble_eq_true rfl) rfl ?_
      refine r_goto (pc := 90) 7 d_X0_unlikestPair_90 (by decide) ?_
      refine r_pick [1, 2, 3, 4, 0] (ls' := [(0, .ref a0), (1, .int v1), (2, .int v2), (3, .int v3), (4, .int (v4 + (1 : Int32)))]) rfl ?_
      exact hk7 v2 v3 (v4 + (1 : Int32)) 
    · refine r_aload_n (pc := 31) 0 d_X0_unlikestPair_31 rfl rfl ?_
      refine r_iload (pc := 32) 4 d_X0_unlikestPair_32 rfl ?_
      refine q_cP (f := (oP Sh D)) (av := [.ref a0, .int v4]) (st := []) (z_runV ck_X0_familyOf rfl ml_X0_72 ci_X0_familyOf cv_X0_familyOf (LK_0 h0 h_a0) (ci := 0) rfl rfl (Nat.le_of_ble_eq_true rfl) d_X0_unlikestPair_34) (s_X0_familyOf hst h0 (by omega) h_a0) kp_P (fun x4 _ => ?_)
      refine r_iload_n (pc := 37) 1 d_X0_unlikestPair_37 rfl rfl ?_
      refine r_icmp_ne (f := (oP Sh D)) (pc := 38) 81 d_X0_unlikestPair_38 (by decide) (fun c5 => ?_) (fun c5 => ?_)
      · refine r_iinc (pc := 81) ((v5 + (1 : Int32))) 5 (ls' := [(5, .int (v5 + (1 : Int32))), (0, .ref a0), (1, .int v1), (2, .int v2), (3, .int v3), (4, .int v4)]) d_X0_unlikestPair_81 rfl rfl (Nat.le_of_ble_eq_true rfl) rfl ?_
        refine r_goto (pc := 84) 22 d_X0_unlikestPair_84 (by decide) ?_
        refine r_pick [1, 2, 3, 4, 5, 0] (ls' := [(0, .ref a0), (1, .int v1), (2, .int v2), (3, .int v3), (4, .int v4), (5, .int (v5 + (1 : Int32)))]) rfl ?_
        exact hk22 v2 v3 v4 (v5 + (1 : Int32)) 
      · refine r_aload_n (pc := 41) 0 d_X0_unlikestPair_41 rfl rfl ?_
        refine r_iload (pc := 42) 5 d_X0_unlikestPair_42 rfl ?_
        refine q_cP (f := (oP Sh D)) (av := [.ref a0, .int v5]) (st := []) (z_runV ck_X0_familyOf rfl ml_X0_72 ci_X0_familyOf cv_X0_familyOf (LK_0 h0 h_a0) (ci := 0) rfl rfl (Nat.le_of_ble_eq_true rfl) d_X0_unlikestPair_44) (s_X0_familyOf hst h0 (by omega) h_a0) kp_P (fun x6 _ => ?_)
        refine r_iload_n (pc := 47) 1 d_X0_unlikestPair_47 rfl rfl ?_
        refine r_icmp_ne (f := (oP Sh D)) (pc := 48) 81 d_X0_unlikestPair_48 (by decide) (fun c7 => ?_) (fun c7 => ?_)
        · refine r_iinc (pc := 81) ((v5 + (1 : Int32))) 5 (ls' := [(5, .int (v5 + (1 : Int32))), (0, .ref a0), (1, .int v1), (2, .int v2), (3, .int v3), (4, .int v4)]) d_X0_unlikestPair_81 rfl rfl (Nat.le_of_ble_eq_true rfl) rfl ?_
          refine r_goto (pc := 84) 22 d_X0_unlikestPair_84 (by decide) ?_
          refine r_pick [1, 2, 3, 4, 5, 0] (ls' := [(0, .ref a0), (1, .int v1), (2, .int v2), (3, .int v3), (4, .int v4), (5, .int (v5 + (1 : Int32)))]) rfl ?_
          exact hk22 v2 v3 v4 (v5 + (1 : Int32)) 
        · refine r_aload_n (pc := 51) 0 d_X0_unlikestPair_51 rfl rfl ?_
          refine r_iload (pc := 52) 4 d_X0_unlikestPair_52 rfl ?_
          refine r_iload (pc := 54) 5 d_X0_unlikestPair_54 rfl ?_
          refine q_cP (f := (oP Sh D)) (av := [.ref a0, .int v4, .int v5]) (st := []) (z_runV ck_X0_unlikeCells rfl ml_X0_75 ci_X0_unlikeCells cv_X0_unlikeCells (LK_0 h0 h_a0) (ci := 0) rfl rfl (Nat.le_of_ble_eq_true rfl) d_X0_unlikestPair_56) (s_X0_unlikeCells hst h0 (by omega) h_a0) kp_P (fun x8 _ => ?_)
          refine r_iload_n (pc := 59) 3 d_X0_unlikestPair_59 rfl rfl ?_
          refine r_icmp_le (f := (oP Sh D)) (pc := 60) 81 d_X0_unlikestPair_60 (by decide) (fun c9 => ?_) (fun c9 => ?_)
          · refine r_iinc (pc := 81) ((v5 + (1 : Int32))) 5 (ls' := [(5, .int (v5 + (1 : Int32))), (0, .ref a0), (1, .int v1), (2, .int v2), (3, .int v3), (4, .int v4)]) d_X0_unlikestPair_81 rfl rfl (Nat.le_of_ble_eq_true rfl) rfl ?_
            refine r_goto (pc := 84) 22 d_X0_unlikestPair_84 (by decide) ?_
            refine r_pick [1, 2, 3, 4, 5, 0] (ls' := [(0, .ref a0), (1, .int v1), (2, .int v2), (3, .int v3), (4, .int v4), (5, .int (v5 + (1 : Int32)))]) rfl ?_
            exact hk22 v2 v3 v4 (v5 + (1 : Int32)) 
          · refine r_aload_n (pc := 63) 0 d_X0_unlikestPair_63 rfl rfl ?_
            refine r_iload (pc := 64) 4 d_X0_unlikestPair_64 rfl ?_
            refine r_iload (pc := 66) 5 d_X0_unlikestPair_66 rfl ?_
            refine q_cP (f := (oP Sh D)) (av := [.ref a0, .int v4, .int v5]) (st := []) (z_runV ck_X0_unlikeCells rfl ml_X0_75 ci_X0_unlikeCells cv_X0_unlikeCells (LK_0 h0 h_a0) (ci := 0) rfl rfl (Nat.le_of_ble_eq_true rfl) d_X0_unlikestPair_68) (s_X0_unlikeCells hst h0 (by omega) h_a0) kp_P (fun x10 _ => ?_)
            refine r_istore_n (pc := 71) (ls' := [(3, .int x10), (0, .ref a0), (1, .int v1), (2, .int v2), (4, .int v4), (5, .int v5)]) d_X0_unlikestPair_71 rfl (Nat.le_of_ble_eq_true rfl) rfl ?_
            refine r_bipush (pc := 72) (100 : Int32) d_X0_unlikestPair_72 rfl ?_
            refine r_iload (pc := 74) 4 d_X0_unlikestPair_74 rfl ?_
            refine r_imul (pc := 76) d_X0_unlikestPair_76 ?_
            refine r_iload (pc := 77) 5 d_X0_unlikestPair_77 rfl ?_
            refine r_iadd (pc := 79) d_X0_unlikestPair_79 ?_
            refine r_leti (f := (oP Sh D)) (fun x11 => ?_)
            refine r_istore_n (pc := 80) (ls' := [(2, .int x11), (3, .int x10), (0, .ref a0), (1, .int v1), (4, .int v4), (5, .int v5)]) d_X0_unlikestPair_80 rfl (Nat.le_of_ble_eq_true rfl) rfl ?_
            refine r_iinc (pc := 81) ((v5 + (1 : Int32))) 5 (ls' := [(5, .int (v5 + (1 : Int32))), (2, .int x11), (3, .int x10), (0, .ref a0), (1, .int v1), (4, .int v4)]) d_X0_unlikestPair_81 rfl rfl (Nat.le_of_ble_eq_true rfl) rfl ?_
            refine r_goto (pc := 84) 22 d_X0_unlikestPair_84 (by decide) ?_
            refine r_pick [3, 4, 1, 2, 5, 0] (ls' := [(0, .ref a0), (1, .int v1), (2, .int x11), (3, .int x10), (4, .int v4), (5, .int (v5 + (1 : Int32)))]) rfl ?_
            exact hk22 x11 x10 v4 (v5 + (1 : Int32)) 
theorem s_X0_unlikestPair_7 {X : zX} {Sh : zSh} {d : Nat} (hst : (zl X).stackTraces = false) (h0 : zSh0 Sh) (hd : 3 ≤ d) {a0 : Nat} {v1 : Int32} (h_a0 : a0 ∈ zI_0) (D : zD) : ∀ (n : Nat) (v2 : Int32) (v3 : Int32) (v4 : Int32) , Rn X m_X0_unlikestPair (d + 1) 7 [(0, .ref a0), (1, .int v1), (2, .int v2), (3, .int v3), (4, .int v4)] [] (Sh, D) ((oP Sh D) (fn_X0_unlikestPair_7 a0 v1 D n v2 v3 v4)) := by
  intro n
  induction n with
  | zero => intro v2 v3 v4; exact Rn_none rfl
  | succ n hk7 =>
    intro v2 v3 v4
    rw [fn_X0_unlikestPair_7]
    refine r_iload (pc := 7) 4 d_X0_unlikestPair_7 rfl ?_
    refine r_aload_n (pc := 9) 0 d_X0_unlikestPair_9 rfl rfl ?_
    refine q_gI (pc := 10) g_X0_40 (LK_0 h0 h_a0) rfl d_X0_unlikestPair_10 ?_
    refine r_icmp_ge (f := (oP Sh D)) (pc := 13) 93 d_X0_unlikestPair_13 (by decide) (fun c1 => ?_) (fun c1 => ?_)
    · refine r_iload_n (pc := 93) 2 d_X0_unlikestPair_93 rfl rfl ?_
      exact r_iret (pc := 94) rfl d_X0_unlikestPair_94
    · refine r_iload (pc := 16) 4 d_X0_unlikestPair_16 rfl ?_
      refine r_iconst (pc := 18) (1 : Int32) d_X0_unlikestPair_18 rfl ?_
      refine r_iadd (pc := 19) d_X0_unlikestPair_19 ?_
      refine r_leti (f := (oP Sh D)) (fun x2 => ?_)
      refine r_istore (pc := 20) (ls' := [(5, .int x2), (0, .ref a0), (1, .int v1), (2, .int v2), (3, .int v3), (4, .int v4)]) d_X0_unlikestPair_20 (Nat.le_of_ble_eq_true rfl) rfl ?_
      refine r_pick [1, 2, 3, 4, 5, 0] (ls' := [(0, .ref a0), (1, .int v1), (2, .int v2), (3, .int v3), (4, .int v4), (5, .int x2)]) rfl ?_
      exact s_X0_unlikestPair_22 hst h0 hd h_a0 D (fn_X0_unlikestPair_7 a0 v1 D n) hk7 zFU  v2 v3 v4 x2
theorem s_X0_unlikestPair {X : zX} {Sh : zSh} {d : Nat} (hst : (zl X).stackTraces = false) (h0 : zSh0 Sh) (hd : 4 ≤ d) {a0 : Nat} {v1 : Int32} (h_a0 : a0 ∈ zI_0) {D : zD} : Sd X m_X0_unlikestPair d [.ref a0, .int v1] (Sh, D) ((oP Sh D) (fn_X0_unlikestPair a0 v1 D)) := by
  obtain ⟨d, rfl⟩ : ∃ e, d = e + 1 := ⟨d - 1, by omega⟩
  replace hd : 3 ≤ d := by omega
  refine z_body ck_X0_unlikestPair rfl (Nat.le_of_ble_eq_true rfl) rfl hst ?_
  rw [fn_X0_unlikestPair]
  show Rn X m_X0_unlikestPair (d + 1) 0 [(0, .ref a0), (1, .int v1)] [] (Sh, D) _
  refine r_iconst (pc := 0) (-1 : Int32) d_X0_unlikestPair_0 rfl ?_
  refine r_istore_n (pc := 1) (ls' := [(2, .int (-1 : Int32)), (0, .ref a0), (1, .int v1)]) d_X0_unlikestPair_1 rfl (Nat.le_of_ble_eq_true rfl) rfl ?_
  refine r_iconst (pc := 2) (-1 : Int32) d_X0_unlikestPair_2 rfl ?_
  refine r_istore_n (pc := 3) (ls' := [(3, .int (-1 : Int32)), (2, .int (-1 : Int32)), (0, .ref a0), (1, .int v1)]) d_X0_unlikestPair_3 rfl (Nat.le_of_ble_eq_true rfl) rfl ?_
  refine r_iconst (pc := 4) (0 : Int32) d_X0_unlikestPair_4 rfl ?_
  refine r_istore (pc := 5) (ls' := [(4, .int (0 : Int32)), (3, .int (-1 : Int32)), (2, .int (-1 : Int32)), (0, .ref a0), (1, .int v1)]) d_X0_unlikestPair_5 (Nat.le_of_ble_eq_true rfl) rfl ?_
  refine r_pick [3, 4, 2, 1, 0] (ls' := [(0, .ref a0), (1, .int v1), (2, .int (-1 : Int32)), (3, .int (-1 : Int32)), (4, .int (0 : Int32))]) rfl ?_
  exact s_X0_unlikestPair_7 hst h0 hd h_a0 D zFU  (-1 : Int32) (-1 : Int32) (0 : Int32)
/-! CoveredSigns$Alphabet.isStranger -/
theorem d_X0_isStranger_0 : decode (yB m_X0_isStranger) 0 = .ok (.bipush 31, 2) := by decide +kernel
theorem d_X0_isStranger_2 : decode (yB m_X0_isStranger) 2 = .ok (.istore_n 2, 1) := by decide +kernel
theorem d_X0_isStranger_3 : decode (yB m_X0_isStranger) 3 = .ok (.bipush 31, 2) := by decide +kernel
theorem d_X0_isStranger_5 : decode (yB m_X0_isStranger) 5 = .ok (.istore_n 3, 1) := by decide +kernel
theorem d_X0_isStranger_6 : decode (yB m_X0_isStranger) 6 = .ok (.iconst 0, 1) := by decide +kernel
theorem d_X0_isStranger_7 : decode (yB m_X0_isStranger) 7 = .ok (.istore 4, 2) := by decide +kernel
theorem d_X0_isStranger_9 : decode (yB m_X0_isStranger) 9 = .ok (.iload 4, 2) := by decide +kernel
theorem d_X0_isStranger_11 : decode (yB m_X0_isStranger) 11 = .ok (.aload_n 0, 1) := by decide +kernel
theorem d_X0_isStranger_12 : decode (yB m_X0_isStranger) 12 = .ok (.getfield 40, 3) := by decide +kernel
theorem d_X0_isStranger_15 : decode (yB m_X0_isStranger) 15 = .ok (.if_icmp .ge 62, 3) := by decide +kernel
theorem d_X0_isStranger_18 : decode (yB m_X0_isStranger) 18 = .ok (.iload 4, 2) := by decide +kernel
theorem d_X0_isStranger_20 : decode (yB m_X0_isStranger) 20 = .ok (.iload_n 1, 1) := by decide +kernel
theorem d_X0_isStranger_21 : decode (yB m_X0_isStranger) 21 = .ok (.if_icmp .eq 32, 3) := by decide +kernel
theorem d_X0_isStranger_24 : decode (yB m_X0_isStranger) 24 = .ok (.aload_n 0, 1) := by decide +kernel
theorem d_X0_isStranger_25 : decode (yB m_X0_isStranger) 25 = .ok (.iload 4, 2) := by decide +kernel
theorem d_X0_isStranger_27 : decode (yB m_X0_isStranger) 27 = .ok (.invokevirtual 72, 3) := by decide +kernel
theorem d_X0_isStranger_30 : decode (yB m_X0_isStranger) 30 = .ok (.aload_n 0, 1) := by decide +kernel
theorem d_X0_isStranger_31 : decode (yB m_X0_isStranger) 31 = .ok (.iload_n 1, 1) := by decide +kernel
theorem d_X0_isStranger_32 : decode (yB m_X0_isStranger) 32 = .ok (.invokevirtual 72, 3) := by decide +kernel
theorem d_X0_isStranger_35 : decode (yB m_X0_isStranger) 35 = .ok (.if_icmp .ne 18, 3) := by decide +kernel
theorem d_X0_isStranger_38 : decode (yB m_X0_isStranger) 38 = .ok (.iload_n 2, 1) := by decide +kernel
theorem d_X0_isStranger_39 : decode (yB m_X0_isStranger) 39 = .ok (.aload_n 0, 1) := by decide +kernel
theorem d_X0_isStranger_40 : decode (yB m_X0_isStranger) 40 = .ok (.iload_n 1, 1) := by decide +kernel
theorem d_X0_isStranger_41 : decode (yB m_X0_isStranger) 41 = .ok (.iload 4, 2) := by decide +kernel
theorem d_X0_isStranger_43 : decode (yB m_X0_isStranger) 43 = .ok (.invokevirtual 75, 3) := by decide +kernel
theorem d_X0_isStranger_46 : decode (yB m_X0_isStranger) 46 = .ok (.invokestatic 79, 3) := by decide +kernel
theorem d_X0_isStranger_49 : decode (yB m_X0_isStranger) 49 = .ok (.istore_n 2, 1) := by decide +kernel
theorem d_X0_isStranger_50 : decode (yB m_X0_isStranger) 50 = .ok (.goto 21, 3) := by decide +kernel
theorem d_X0_isStranger_53 : decode (yB m_X0_isStranger) 53 = .ok (.iload 4, 2) := by decide +kernel
theorem d_X0_isStranger_55 : decode (yB m_X0_isStranger) 55 = .ok (.iload_n 1, 1) := by decide +kernel
theorem d_X0_isStranger_56 : decode (yB m_X0_isStranger) 56 = .ok (.if_icmp .eq 15, 3) := by decide +kernel
theorem d_X0_isStranger_59 : decode (yB m_X0_isStranger) 59 = .ok (.iload_n 3, 1) := by decide +kernel
theorem d_X0_isStranger_60 : decode (yB m_X0_isStranger) 60 = .ok (.aload_n 0, 1) := by decide +kernel
theorem d_X0_isStranger_61 : decode (yB m_X0_isStranger) 61 = .ok (.iload_n 1, 1) := by decide +kernel
theorem d_X0_isStranger_62 : decode (yB m_X0_isStranger) 62 = .ok (.iload 4, 2) := by decide +kernel
theorem d_X0_isStranger_64 : decode (yB m_X0_isStranger) 64 = .ok (.invokevirtual 75, 3) := by decide +kernel
theorem d_X0_isStranger_67 : decode (yB m_X0_isStranger) 67 = .ok (.invokestatic 79, 3) := by decide +kernel
theorem d_X0_isStranger_70 : decode (yB m_X0_isStranger) 70 = .ok (.istore_n 3, 1) := by decide +kernel
theorem d_X0_isStranger_71 : decode (yB m_X0_isStranger) 71 = .ok (.iinc 4 1, 3) := by decide +kernel
theorem d_X0_isStranger_74 : decode (yB m_X0_isStranger) 74 = .ok (.goto (-65), 3) := by decide +kernel
theorem d_X0_isStranger_77 : decode (yB m_X0_isStranger) 77 = .ok (.aload_n 0, 1) := by decide +kernel
theorem d_X0_isStranger_78 : decode (yB m_X0_isStranger) 78 = .ok (.iload_n 1, 1) := by decide +kernel
theorem d_X0_isStranger_79 : decode (yB m_X0_isStranger) 79 = .ok (.invokevirtual 72, 3) := by decide +kernel
theorem d_X0_isStranger_82 : decode (yB m_X0_isStranger) 82 = .ok (.iconst (-1), 1) := by decide +kernel
theorem d_X0_isStranger_83 : decode (yB m_X0_isStranger) 83 = .ok (.if_icmp .eq 18, 3) := by decide +kernel
theorem d_X0_isStranger_86 : decode (yB m_X0_isStranger) 86 = .ok (.iload_n 2, 1) := by decide +kernel
theorem d_X0_isStranger_87 : decode (yB m_X0_isStranger) 87 = .ok (.bipush 30, 2) := by decide +kernel
theorem d_X0_isStranger_89 : decode (yB m_X0_isStranger) 89 = .ok (.if_icmp .gt 12, 3) := by decide +kernel
theorem d_X0_isStranger_92 : decode (yB m_X0_isStranger) 92 = .ok (.iload_n 3, 1) := by decide +kernel
theorem d_X0_isStranger_93 : decode (yB m_X0_isStranger) 93 = .ok (.iload_n 2, 1) := by decide +kernel
theorem d_X0_isStranger_94 : decode (yB m_X0_isStranger) 94 = .ok (.if_icmp .ge 7, 3) := by decide +kernel
theorem d_X0_isStranger_97 : decode (yB m_X0_isStranger) 97 = .ok (.iconst 1, 1) := by decide +kernel
theorem d_X0_isStranger_98 : decode (yB m_X0_isStranger) 98 = .ok (.goto 4, 3) := by decide +kernel
theorem d_X0_isStranger_101 : decode (yB m_X0_isStranger) 101 = .ok (.iconst 0, 1) := by decide +kernel
theorem d_X0_isStranger_102 : decode (yB m_X0_isStranger) 102 = .ok (.ireturn, 1) := by decide +kernel
def fn_X0_isStranger_77 (a0 : Nat) (v1 : Int32) (D : zD) (v2 : Int32) (v3 : Int32) : Option Int32 := (fn_X0_familyOf a0 v1 D).bind fun x2 => (if x2 = (-1 : Int32) then ((some (0 : Int32))) else ((if (30 : Int32) < v2 then ((some (0 : Int32))) else ((if v2 ≤ v3 then ((some (0 : Int32))) else ((some (1 : Int32))))))))
def fn_X0_isStranger_53 (a0 : Nat) (v1 : Int32) (D : zD) (k9 : Int32 → Int32 → Int32 → Option Int32) (v2 : Int32) (v3 : Int32) (v4 : Int32) : Option Int32 := (if v4 = v1 then ((k9 v2 v3 (v4 + (1 : Int32)))) else ((fn_X0_unlikeCells a0 v1 v4 D).bind fun x8 => zlet (zmn v3 x8) fun x9 => (k9 v2 x9 (v4 + (1 : Int32)))))
def fn_X0_isStranger_9 (a0 : Nat) (v1 : Int32) (D : zD) : Nat → Int32 → Int32 → Int32 → Option Int32
  | 0, _, _, _ => none
  | n + 1, v2, v3, v4 => (if (gI D a0 2) ≤ v4 then ((fn_X0_isStranger_77 a0 v1 D v2 v3)) else ((if v4 = v1 then ((fn_X0_isStranger_53 a0 v1 D (fn_X0_isStranger_9 a0 v1 D n) v2 v3 v4)) else ((fn_X0_familyOf a0 v4 D).bind fun x10 => (fn_X0_familyOf a0 v1 D).bind fun x11 => (if x10 = x11 then ((fn_X0_unlikeCells a0 v1 v4 D).bind fun x13 => zlet (zmn v2 x13) fun x14 => ((fn_X0_isStranger_9 a0 v1 D n) x14 v3 (v4 + (1 : Int32)))) else ((fn_X0_isStranger_53 a0 v1 D (fn_X0_isStranger_9 a0 v1 D n) v2 v3 v4)))))))
def fn_X0_isStranger (a0 : Nat) (v1 : Int32) (D : zD) : Option Int32 := (fn_X0_isStranger_9 a0 v1 D zFU (31 : Int32) (31 : Int32) (0 : Int32))
theorem s_X0_isStranger_77 {X : zX} {Sh : zSh} {d : Nat} (hst : (zl X).stackTraces = false) (h0 : zSh0 Sh) (hd : 3 ≤ d) {a0 : Nat} {v1 : Int32} (h_a0 : a0 ∈ zI_0) (D : zD) (v2 : Int32) (v3 : Int32)  : Rn X m_X0_isStranger (d + 1) 77 [(0, .ref a0), (1, .int v1), (2, .int v2), (3, .int v3)] [] (Sh, D) ((oP Sh D) (fn_X0_isStranger_77 a0 v1 D v2 v3)) := by
  rw [fn_X0_isStranger_77]
  refine r_aload_n (pc := 77) 0 d_X0_isStranger_77 rfl rfl ?_
  refine r_iload_n (pc := 78) 1 d_X0_isStranger_78 rfl rfl ?_
  refine q_cP (f := (oP Sh D)) (av := [.ref a0, .int v1]) (st := []) (z_runV ck_X0_familyOf rfl ml_X0_72 ci_X0_familyOf cv_X0_familyOf (LK_0 h0 h_a0) (ci := 0) rfl rfl (Nat.le_of_ble_eq_true rfl) d_X0_isStranger_79) (s_X0_familyOf hst h0 (by omega) h_a0) kp_P (fun x2 _ => ?_)
  refine r_iconst (pc := 82) (-1 : Int32) d_X0_isStranger_82 rfl ?_
  refine r_icmp_eq (f := (oP Sh D)) (pc := 83) 101 d_X0_isStranger_83 (by decide) (fun c3 => ?_) (fun c3 => ?_)
  · refine r_iconst (pc := 101) (0 : Int32) d_X0_isStranger_101 rfl ?_
    exact r_zret (pc := 102) rfl (by decide) d_X0_isStranger_102
  · refine r_iload_n (pc := 86) 2 d_X0_isStranger_86 rfl rfl ?_
    refine r_bipush (pc := 87) (30 : Int32) d_X0_isStranger_87 rfl ?_
    refine r_icmp_gt (f := (oP Sh D)) (pc := 89) 101 d_X0_isStranger_89 (by decide) (fun c4 => ?_) (fun c4 => ?_)
    · refine r_iconst (pc := 101) (0 : Int32) d_X0_isStranger_101 rfl ?_
      exact r_zret (pc := 102) rfl (by decide) d_X0_isStranger_102
    · refine r_iload_n (pc := 92) 3 d_X0_isStranger_92 rfl rfl ?_
      refine r_iload_n (pc := 93) 2 d_X0_isStranger_93 rfl rfl ?_
      refine r_icmp_ge (f := (oP Sh D)) (pc := 94) 101 d_X0_isStranger_94 (by decide) (fun c5 => ?_) (fun c5 => ?_)
      · refine r_iconst (pc := 101) (0 : Int32) d_X0_isStranger_101 rfl ?_
        exact r_zret (pc := 102) rfl (by decide) d_X0_isStranger_102
      · refine r_iconst (pc := 97) (1 : Int32) d_X0_isStranger_97 rfl ?_
        refine r_goto (pc := 98) 102 d_X0_isStranger_98 (by decide) ?_
        exact r_zret (pc := 102) rfl (by decide) d_X0_isStranger_102
theorem s_X0_isStranger_53 {X : zX} {Sh : zSh} {d : Nat} (hst : (zl X).stackTraces = false) (h0 : zSh0 Sh) (hd : 3 ≤ d) {a0 : Nat} {v1 : Int32} (h_a0 : a0 ∈ zI_0) (D : zD) (k9 : Int32 → Int32 → Int32 → Option Int32) (hk9 : ∀ (v2 : Int32) (v3 : Int32) (v4 : Int32) , Rn X m_X0_isStranger (d + 1) 9 [(0, .ref a0), (1, .int v1), (2, .int v2), (3, .int v3), (4, .int v4)] [] (Sh, D) ((oP Sh D) (k9 v2 v3 v4))) (v2 : Int32) (v3 : Int32) (v4 : Int32)  : Rn X m_X0_isStranger (d + 1) 53 [(0, .ref a0), (1, .int v1), (2, .int v2), (3, .int v3), (4, .int v4)] [] (Sh, D) ((oP Sh D) (fn_X0_isStranger_53 a0 v1 D k9 v2 v3 v4)) := by
  rw [fn_X0_isStranger_53]
  refine r_iload (pc := 53) 4 d_X0_isStranger_53 rfl ?_
  refine r_iload_n (pc := 55) 1 d_X0_isStranger_55 rfl rfl ?_
  refine r_icmp_eq (f := (oP Sh D)) (pc := 56) 71 d_X0_isStranger_56 (by decide) (fun c7 => ?_) (fun c7 => ?_)
  · refine r_iinc (pc := 71) ((v4 + (1 : Int32))) 4 (ls' := [(4, .int (v4 + (1 : Int32))), (0, .ref a0), (1, .int v1), (2, .int v2), (3, .int v3)]) d_X0_isStranger_71 rfl rfl (Nat.le_of_ble_eq_true rfl) rfl ?_
    refine r_goto (pc := 74) 9 d_X0_isStranger_74 (by decide) ?_
    refine r_pick [1, 2, 3, 4, 0] (ls' := [(0, .ref a0), (1, .int v1), (2, .int v2), (3, .int v3), (4, .int (v4 + (1 : Int32)))]) rfl ?_
    exact hk9 v2 v3 (v4 + (1 : Int32)) 
  · refine r_iload_n (pc := 59) 3 d_X0_isStranger_59 rfl rfl ?_
    refine r_aload_n (pc := 60) 0 d_X0_isStranger_60 rfl rfl ?_
    refine r_iload_n (pc := 61) 1 d_X0_isStranger_61 rfl rfl ?_
    refine r_iload (pc := 62) 4 d_X0_isStranger_62 rfl ?_
    refine q_cP (f := (oP Sh D)) (av := [.ref a0, .int v1, .int v4]) (st := [.int v3]) (z_runV ck_X0_unlikeCells rfl ml_X0_75 ci_X0_unlikeCells cv_X0_unlikeCells (LK_0 h0 h_a0) (ci := 0) rfl rfl (Nat.le_of_ble_eq_true rfl) d_X0_isStranger_64) (s_X0_unlikeCells hst h0 (by omega) h_a0) kp_P (fun x8 _ => ?_)
    refine r_mmin (pc := 67) ml_X0_79 (by omega) (Nat.le_of_ble_eq_true rfl) d_X0_isStranger_67 ?_
    refine r_leti (f := (oP Sh D)) (fun x9 => ?_)
    refine r_istore_n (pc := 70) (ls' := [(3, .int x9), (0, .ref a0), (1, .int v1), (2, .int v2), (4, .int v4)]) d_X0_isStranger_70 rfl (Nat.le_of_ble_eq_true rfl) rfl ?_
    refine r_iinc (pc := 71) ((v4 + (1 : Int32))) 4 (ls' := [(4, .int (v4 + (1 : Int32))), (3, .int x9), (0, .ref a0), (1, .int v1), (2, .int v2)]) d_X0_isStranger_71 rfl rfl (Nat.le_of_ble_eq_true rfl) rfl ?_
    refine r_goto (pc := 74) 9 d_X0_isStranger_74 (by decide) ?_
    refine r_pick [2, 3, 4, 1, 0] (ls' := [(0, .ref a0), (1, .int v1), (2, .int v2), (3, .int x9), (4, .int (v4 + (1 : Int32)))]) rfl ?_
    exact hk9 v2 x9 (v4 + (1 : Int32)) 
theorem s_X0_isStranger_9 {X : zX} {Sh : zSh} {d : Nat} (hst : (zl X).stackTraces = false) (h0 : zSh0 Sh) (hd : 3 ≤ d) {a0 : Nat} {v1 : Int32} (h_a0 : a0 ∈ zI_0) (D : zD) : ∀ (n : Nat) (v2 : Int32) (v3 : Int32) (v4 : Int32) , Rn X m_X0_isStranger (d + 1) 9 [(0, .ref a0), (1, .int v1), (2, .int v2), (3, .int v3), (4, .int v4)] [] (Sh, D) ((oP Sh D) (fn_X0_isStranger_9 a0 v1 D n v2 v3 v4)) := by
  intro n
  induction n with
  | zero => intro v2 v3 v4; exact Rn_none rfl
  | succ n hk9 =>
    intro v2 v3 v4
    rw [fn_X0_isStranger_9]
    refine r_iload (pc := 9) 4 d_X0_isStranger_9 rfl ?_
    refine r_aload_n (pc := 11) 0 d_X0_isStranger_11 rfl rfl ?_
    refine q_gI (pc := 12) g_X0_40 (LK_0 h0 h_a0) rfl d_X0_isStranger_12 ?_
    refine r_icmp_ge (f := (oP Sh D)) (pc := 15) 77 d_X0_isStranger_15 (by decide) (fun c1 => ?_) (fun c1 => ?_)
    · refine r_pick [0, 1, 2, 3] (ls' := [(0, .ref a0), (1, .int v1), (2, .int v2), (3, .int v3)]) rfl ?_
      exact s_X0_isStranger_77 hst h0 hd h_a0 D v2 v3
    · refine r_iload (pc := 18) 4 d_X0_isStranger_18 rfl ?_
      refine r_iload_n (pc := 20) 1 d_X0_isStranger_20 rfl rfl ?_
      refine r_icmp_eq (f := (oP Sh D)) (pc := 21) 53 d_X0_isStranger_21 (by decide) (fun c6 => ?_) (fun c6 => ?_)
      · refine r_pick [0, 1, 2, 3, 4] (ls' := [(0, .ref a0), (1, .int v1), (2, .int v2), (3, .int v3), (4, .int v4)]) rfl ?_
        exact s_X0_isStranger_53 hst h0 hd h_a0 D (fn_X0_isStranger_9 a0 v1 D n) hk9 v2 v3 v4
      · refine r_aload_n (pc := 24) 0 d_X0_isStranger_24 rfl rfl ?_
        refine r_iload (pc := 25) 4 d_X0_isStranger_25 rfl ?_
        refine q_cP (f := (oP Sh D)) (av := [.ref a0, .int v4]) (st := []) (z_runV ck_X0_familyOf rfl ml_X0_72 ci_X0_familyOf cv_X0_familyOf (LK_0 h0 h_a0) (ci := 0) rfl rfl (Nat.le_of_ble_eq_true rfl) d_X0_isStranger_27) (s_X0_familyOf hst h0 (by omega) h_a0) kp_P (fun x10 _ => ?_)
        refine r_aload_n (pc := 30) 0 d_X0_isStranger_30 rfl rfl ?_
        refine r_iload_n (pc := 31) 1 d_X0_isStranger_31 rfl rfl ?_
        refine q_cP (f := (oP Sh D)) (av := [.ref a0, .int v1]) (st := [.int x10]) (z_runV ck_X0_familyOf rfl ml_X0_72 ci_X0_familyOf cv_X0_familyOf (LK_0 h0 h_a0) (ci := 0) rfl rfl (Nat.le_of_ble_eq_true rfl) d_X0_isStranger_32) (s_X0_familyOf hst h0 (by omega) h_a0) kp_P (fun x11 _ => ?_)
        refine r_icmp_ne (f := (oP Sh D)) (pc := 35) 53 d_X0_isStranger_35 (by decide) (fun c12 => ?_) (fun c12 => ?_)
        · refine r_pick [0, 1, 2, 3, 4] (ls' := [(0, .ref a0), (1, .int v1), (2, .int v2), (3, .int v3), (4, .int v4)]) rfl ?_
          exact s_X0_isStranger_53 hst h0 hd h_a0 D (fn_X0_isStranger_9 a0 v1 D n) hk9 v2 v3 v4
        · refine r_iload_n (pc := 38) 2 d_X0_isStranger_38 rfl rfl ?_
          refine r_aload_n (pc := 39) 0 d_X0_isStranger_39 rfl rfl ?_
          refine r_iload_n (pc := 40) 1 d_X0_isStranger_40 rfl rfl ?_
          refine r_iload (pc := 41) 4 d_X0_isStranger_41 rfl ?_
          refine q_cP (f := (oP Sh D)) (av := [.ref a0, .int v1, .int v4]) (st := [.int v2]) (z_runV ck_X0_unlikeCells rfl ml_X0_75 ci_X0_unlikeCells cv_X0_unlikeCells (LK_0 h0 h_a0) (ci := 0) rfl rfl (Nat.le_of_ble_eq_true rfl) d_X0_isStranger_43) (s_X0_unlikeCells hst h0 (by omega) h_a0) kp_P (fun x13 _ => ?_)
          refine r_mmin (pc := 46) ml_X0_79 (by omega) (Nat.le_of_ble_eq_true rfl) d_X0_isStranger_46 ?_
          refine r_leti (f := (oP Sh D)) (fun x14 => ?_)
          refine r_istore_n (pc := 49) (ls' := [(2, .int x14), (0, .ref a0), (1, .int v1), (3, .int v3), (4, .int v4)]) d_X0_isStranger_49 rfl (Nat.le_of_ble_eq_true rfl) rfl ?_
          refine r_goto (pc := 50) 71 d_X0_isStranger_50 (by decide) ?_
          refine r_iinc (pc := 71) ((v4 + (1 : Int32))) 4 (ls' := [(4, .int (v4 + (1 : Int32))), (2, .int x14), (0, .ref a0), (1, .int v1), (3, .int v3)]) d_X0_isStranger_71 rfl rfl (Nat.le_of_ble_eq_true rfl) rfl ?_
          refine r_goto (pc := 74) 9 d_X0_isStranger_74 (by decide) ?_
          refine r_pick [2, 3, 1, 4, 0] (ls' := [(0, .ref a0), (1, .int v1), (2, .int x14), (3, .int v3), (4, .int (v4 + (1 : Int32)))]) rfl ?_
          exact hk9 x14 v3 (v4 + (1 : Int32)) 
theorem s_X0_isStranger {X : zX} {Sh : zSh} {d : Nat} (hst : (zl X).stackTraces = false) (h0 : zSh0 Sh) (hd : 4 ≤ d) {a0 : Nat} {v1 : Int32} (h_a0 : a0 ∈ zI_0) {D : zD} : Sd X m_X0_isStranger d [.ref a0, .int v1] (Sh, D) ((oP Sh D) (fn_X0_isStranger a0 v1 D)) := by
  obtain ⟨d, rfl⟩ : ∃ e, d = e + 1 := ⟨d - 1, by omega⟩
  replace hd : 3 ≤ d := by omega
  refine z_body ck_X0_isStranger rfl (Nat.le_of_ble_eq_true rfl) rfl hst ?_
  rw [fn_X0_isStranger]
  show Rn X m_X0_isStranger (d + 1) 0 [(0, .ref a0), (1, .int v1)] [] (Sh, D) _
  refine r_bipush (pc := 0) (31 : Int32) d_X0_isStranger_0 rfl ?_
  refine r_istore_n (pc := 2) (ls' := [(2, .int (31 : Int32)), (0, .ref a0), (1, .int v1)]) d_X0_isStranger_2 rfl (Nat.le_of_ble_eq_true rfl) rfl ?_
  refine r_bipush (pc := 3) (31 : Int32) d_X0_isStranger_3 rfl ?_
  refine r_istore_n (pc := 5) (ls' := [(3, .int (31 : Int32)), (2, .int (31 : Int32)), (0, .ref a0), (1, .int v1)]) d_X0_isStranger_5 rfl (Nat.le_of_ble_eq_true rfl) rfl ?_
  refine r_iconst (pc := 6) (0 : Int32) d_X0_isStranger_6 rfl ?_
  refine r_istore (pc := 7) (ls' := [(4, .int (0 : Int32)), (3, .int (31 : Int32)), (2, .int (31 : Int32)), (0, .ref a0), (1, .int v1)]) d_X0_isStranger_7 (Nat.le_of_ble_eq_true rfl) rfl ?_
  refine r_pick [3, 4, 2, 1, 0] (ls' := [(0, .ref a0), (1, .int v1), (2, .int (31 : Int32)), (3, .int (31 : Int32)), (4, .int (0 : Int32))]) rfl ?_
  exact s_X0_isStranger_9 hst h0 hd h_a0 D zFU  (31 : Int32) (31 : Int32) (0 : Int32)
/-! CoveredSigns$Alphabet.findsPartner -/
theorem d_X0_findsPartner_0 : decode (yB m_X0_findsPartner) 0 = .ok (.iload_n 3, 1) := by decide +kernel
theorem d_X0_findsPartner_1 : decode (yB m_X0_findsPartner) 1 = .ok (.bipush 30, 2) := by decide +kernel
theorem d_X0_findsPartner_3 : decode (yB m_X0_findsPartner) 3 = .ok (.if_icmp .le 5, 3) := by decide +kernel
theorem d_X0_findsPartner_6 : decode (yB m_X0_findsPartner) 6 = .ok (.iconst 0, 1) := by decide +kernel
theorem d_X0_findsPartner_7 : decode (yB m_X0_findsPartner) 7 = .ok (.ireturn, 1) := by decide +kernel
theorem d_X0_findsPartner_8 : decode (yB m_X0_findsPartner) 8 = .ok (.iconst 0, 1) := by decide +kernel
theorem d_X0_findsPartner_9 : decode (yB m_X0_findsPartner) 9 = .ok (.istore 4, 2) := by decide +kernel
theorem d_X0_findsPartner_11 : decode (yB m_X0_findsPartner) 11 = .ok (.iload 4, 2) := by decide +kernel
theorem d_X0_findsPartner_13 : decode (yB m_X0_findsPartner) 13 = .ok (.bipush 30, 2) := by decide +kernel
theorem d_X0_findsPartner_15 : decode (yB m_X0_findsPartner) 15 = .ok (.if_icmp .ge 120, 3) := by decide +kernel
theorem d_X0_findsPartner_18 : decode (yB m_X0_findsPartner) 18 = .ok (.iload_n 1, 1) := by decide +kernel
theorem d_X0_findsPartner_19 : decode (yB m_X0_findsPartner) 19 = .ok (.iload 4, 2) := by decide +kernel
theorem d_X0_findsPartner_21 : decode (yB m_X0_findsPartner) 21 = .ok (.ishr, 1) := by decide +kernel
theorem d_X0_findsPartner_22 : decode (yB m_X0_findsPartner) 22 = .ok (.iconst 1, 1) := by decide +kernel
theorem d_X0_findsPartner_23 : decode (yB m_X0_findsPartner) 23 = .ok (.iand, 1) := by decide +kernel
theorem d_X0_findsPartner_24 : decode (yB m_X0_findsPartner) 24 = .ok (.ifCond .eq 105, 3) := by decide +kernel
theorem d_X0_findsPartner_27 : decode (yB m_X0_findsPartner) 27 = .ok (.aload_n 0, 1) := by decide +kernel
theorem d_X0_findsPartner_28 : decode (yB m_X0_findsPartner) 28 = .ok (.getfield 31, 3) := by decide +kernel
theorem d_X0_findsPartner_31 : decode (yB m_X0_findsPartner) 31 = .ok (.iload 4, 2) := by decide +kernel
theorem d_X0_findsPartner_33 : decode (yB m_X0_findsPartner) 33 = .ok (.iaload, 1) := by decide +kernel
theorem d_X0_findsPartner_34 : decode (yB m_X0_findsPartner) 34 = .ok (.iload_n 2, 1) := by decide +kernel
theorem d_X0_findsPartner_35 : decode (yB m_X0_findsPartner) 35 = .ok (.if_icmp .eq 6, 3) := by decide +kernel
theorem d_X0_findsPartner_38 : decode (yB m_X0_findsPartner) 38 = .ok (.goto 91, 3) := by decide +kernel
theorem d_X0_findsPartner_41 : decode (yB m_X0_findsPartner) 41 = .ok (.aload_n 0, 1) := by decide +kernel
theorem d_X0_findsPartner_42 : decode (yB m_X0_findsPartner) 42 = .ok (.getfield 34, 3) := by decide +kernel
theorem d_X0_findsPartner_45 : decode (yB m_X0_findsPartner) 45 = .ok (.iload 4, 2) := by decide +kernel
theorem d_X0_findsPartner_47 : decode (yB m_X0_findsPartner) 47 = .ok (.iaload, 1) := by decide +kernel
theorem d_X0_findsPartner_48 : decode (yB m_X0_findsPartner) 48 = .ok (.istore 5, 2) := by decide +kernel
theorem d_X0_findsPartner_50 : decode (yB m_X0_findsPartner) 50 = .ok (.iload 5, 2) := by decide +kernel
theorem d_X0_findsPartner_52 : decode (yB m_X0_findsPartner) 52 = .ok (.ifCond .lt 77, 3) := by decide +kernel
theorem d_X0_findsPartner_55 : decode (yB m_X0_findsPartner) 55 = .ok (.iload 5, 2) := by decide +kernel
theorem d_X0_findsPartner_57 : decode (yB m_X0_findsPartner) 57 = .ok (.bipush 30, 2) := by decide +kernel
theorem d_X0_findsPartner_59 : decode (yB m_X0_findsPartner) 59 = .ok (.if_icmp .ge 70, 3) := by decide +kernel
theorem d_X0_findsPartner_62 : decode (yB m_X0_findsPartner) 62 = .ok (.aload_n 0, 1) := by decide +kernel
theorem d_X0_findsPartner_63 : decode (yB m_X0_findsPartner) 63 = .ok (.getfield 94, 3) := by decide +kernel
theorem d_X0_findsPartner_66 : decode (yB m_X0_findsPartner) 66 = .ok (.iload 5, 2) := by decide +kernel
theorem d_X0_findsPartner_68 : decode (yB m_X0_findsPartner) 68 = .ok (.ishr, 1) := by decide +kernel
theorem d_X0_findsPartner_69 : decode (yB m_X0_findsPartner) 69 = .ok (.iconst 1, 1) := by decide +kernel
theorem d_X0_findsPartner_70 : decode (yB m_X0_findsPartner) 70 = .ok (.iand, 1) := by decide +kernel
theorem d_X0_findsPartner_71 : decode (yB m_X0_findsPartner) 71 = .ok (.ifCond .eq 6, 3) := by decide +kernel
theorem d_X0_findsPartner_74 : decode (yB m_X0_findsPartner) 74 = .ok (.goto 55, 3) := by decide +kernel
theorem d_X0_findsPartner_77 : decode (yB m_X0_findsPartner) 77 = .ok (.aload_n 0, 1) := by decide +kernel
theorem d_X0_findsPartner_78 : decode (yB m_X0_findsPartner) 78 = .ok (.dup, 1) := by decide +kernel
theorem d_X0_findsPartner_79 : decode (yB m_X0_findsPartner) 79 = .ok (.getfield 94, 3) := by decide +kernel
theorem d_X0_findsPartner_82 : decode (yB m_X0_findsPartner) 82 = .ok (.iconst 1, 1) := by decide +kernel
theorem d_X0_findsPartner_83 : decode (yB m_X0_findsPartner) 83 = .ok (.iload 5, 2) := by decide +kernel
theorem d_X0_findsPartner_85 : decode (yB m_X0_findsPartner) 85 = .ok (.ishl, 1) := by decide +kernel
theorem d_X0_findsPartner_86 : decode (yB m_X0_findsPartner) 86 = .ok (.ior, 1) := by decide +kernel
theorem d_X0_findsPartner_87 : decode (yB m_X0_findsPartner) 87 = .ok (.putfield 94, 3) := by decide +kernel
theorem d_X0_findsPartner_90 : decode (yB m_X0_findsPartner) 90 = .ok (.aload_n 0, 1) := by decide +kernel
theorem d_X0_findsPartner_91 : decode (yB m_X0_findsPartner) 91 = .ok (.getfield 37, 3) := by decide +kernel
theorem d_X0_findsPartner_94 : decode (yB m_X0_findsPartner) 94 = .ok (.iload 5, 2) := by decide +kernel
theorem d_X0_findsPartner_96 : decode (yB m_X0_findsPartner) 96 = .ok (.iaload, 1) := by decide +kernel
theorem d_X0_findsPartner_97 : decode (yB m_X0_findsPartner) 97 = .ok (.iconst (-1), 1) := by decide +kernel
theorem d_X0_findsPartner_98 : decode (yB m_X0_findsPartner) 98 = .ok (.if_icmp .eq 21, 3) := by decide +kernel
theorem d_X0_findsPartner_101 : decode (yB m_X0_findsPartner) 101 = .ok (.aload_n 0, 1) := by decide +kernel
theorem d_X0_findsPartner_102 : decode (yB m_X0_findsPartner) 102 = .ok (.iload_n 1, 1) := by decide +kernel
theorem d_X0_findsPartner_103 : decode (yB m_X0_findsPartner) 103 = .ok (.aload_n 0, 1) := by decide +kernel
theorem d_X0_findsPartner_104 : decode (yB m_X0_findsPartner) 104 = .ok (.getfield 37, 3) := by decide +kernel
theorem d_X0_findsPartner_107 : decode (yB m_X0_findsPartner) 107 = .ok (.iload 5, 2) := by decide +kernel
theorem d_X0_findsPartner_109 : decode (yB m_X0_findsPartner) 109 = .ok (.iaload, 1) := by decide +kernel
theorem d_X0_findsPartner_110 : decode (yB m_X0_findsPartner) 110 = .ok (.iload_n 3, 1) := by decide +kernel
theorem d_X0_findsPartner_111 : decode (yB m_X0_findsPartner) 111 = .ok (.iconst 1, 1) := by decide +kernel
theorem d_X0_findsPartner_112 : decode (yB m_X0_findsPartner) 112 = .ok (.iadd, 1) := by decide +kernel
theorem d_X0_findsPartner_113 : decode (yB m_X0_findsPartner) 113 = .ok (.invokevirtual 97, 3) := by decide +kernel
theorem d_X0_findsPartner_116 : decode (yB m_X0_findsPartner) 116 = .ok (.ifCond .eq 13, 3) := by decide +kernel
theorem d_X0_findsPartner_119 : decode (yB m_X0_findsPartner) 119 = .ok (.aload_n 0, 1) := by decide +kernel
theorem d_X0_findsPartner_120 : decode (yB m_X0_findsPartner) 120 = .ok (.getfield 37, 3) := by decide +kernel
theorem d_X0_findsPartner_123 : decode (yB m_X0_findsPartner) 123 = .ok (.iload 5, 2) := by decide +kernel
theorem d_X0_findsPartner_125 : decode (yB m_X0_findsPartner) 125 = .ok (.iload_n 2, 1) := by decide +kernel
theorem d_X0_findsPartner_126 : decode (yB m_X0_findsPartner) 126 = .ok (.iastore, 1) := by decide +kernel
theorem d_X0_findsPartner_127 : decode (yB m_X0_findsPartner) 127 = .ok (.iconst 1, 1) := by decide +kernel
theorem d_X0_findsPartner_128 : decode (yB m_X0_findsPartner) 128 = .ok (.ireturn, 1) := by decide +kernel
theorem d_X0_findsPartner_129 : decode (yB m_X0_findsPartner) 129 = .ok (.iinc 4 1, 3) := by decide +kernel
theorem d_X0_findsPartner_132 : decode (yB m_X0_findsPartner) 132 = .ok (.goto (-121), 3) := by decide +kernel
theorem d_X0_findsPartner_135 : decode (yB m_X0_findsPartner) 135 = .ok (.iconst 0, 1) := by decide +kernel
theorem d_X0_findsPartner_136 : decode (yB m_X0_findsPartner) 136 = .ok (.ireturn, 1) := by decide +kernel
def fn_X0_findsPartner_119 (f_X0_findsPartner : Nat → Int32 → Int32 → Int32 → zD → Option (Int32 × zD)) (a0 : Nat) (v1 : Int32) (v2 : Int32) (v3 : Int32) (v5 : Int32) (D : zD) : Option (Int32 × zD) := zck v5 30 <| zlet (sI D (a0 + 7) v5.toNatClampNeg v2) fun D15 => (some ((1 : Int32), D15))
def fn_X0_findsPartner_11 (f_X0_findsPartner : Nat → Int32 → Int32 → Int32 → zD → Option (Int32 × zD)) (a0 : Nat) (v1 : Int32) (v2 : Int32) (v3 : Int32) : Nat → Int32 → zD → Option (Int32 × zD)
  | 0, _, _ => none
  | n + 1, v4, D => (if (30 : Int32) ≤ v4 then ((some ((0 : Int32), D))) else ((if ((v1 >>> (v4 &&& 31)) &&& (1 : Int32)) = 0 then (((fn_X0_findsPartner_11 f_X0_findsPartner a0 v1 v2 v3 n) (v4 + (1 : Int32)) D)) else (zck v4 30 <| (if (gI D (a0 + 5) v4.toNatClampNeg) = v2 then (zck v4 30 <| zlet (gI D (a0 + 6) v4.toNatClampNeg) fun x7 => (if x7 < 0 then (((fn_X0_findsPartner_11 f_X0_findsPartner a0 v1 v2 v3 n) (v4 + (1 : Int32)) D)) else ((if (30 : Int32) ≤ x7 then (((fn_X0_findsPartner_11 f_X0_findsPartner a0 v1 v2 v3 n) (v4 + (1 : Int32)) D)) else ((if (((gI D a0 11) >>> (x7 &&& 31)) &&& (1 : Int32)) = 0 then (zlet (sI D a0 11 ((gI D a0 11) ||| ((1 : Int32) <<< (x7 &&& 31)))) fun D11 => zck x7 30 <| (if (gI D11 (a0 + 7) x7.toNatClampNeg) = (-1 : Int32) then ((fn_X0_findsPartner_119 f_X0_findsPartner a0 v1 v2 v3 x7 D11)) else (zck x7 30 <| (f_X0_findsPartner a0 v1 (gI D11 (a0 + 7) x7.toNatClampNeg) (v3 + (1 : Int32)) D11).bind fun q17 => (if q17.1 = 0 then (((fn_X0_findsPartner_11 f_X0_findsPartner a0 v1 v2 v3 n) (v4 + (1 : Int32)) q17.2)) else ((fn_X0_findsPartner_119 f_X0_findsPartner a0 v1 v2 v3 x7 q17.2)))))) else (((fn_X0_findsPartner_11 f_X0_findsPartner a0 v1 v2 v3 n) (v4 + (1 : Int32)) D)))))))) else (((fn_X0_findsPartner_11 f_X0_findsPartner a0 v1 v2 v3 n) (v4 + (1 : Int32)) D)))))))
def fn_X0_findsPartner (f_X0_findsPartner : Nat → Int32 → Int32 → Int32 → zD → Option (Int32 × zD)) (a0 : Nat) (v1 : Int32) (v2 : Int32) (v3 : Int32) (D : zD) : Option (Int32 × zD) := (if v3 ≤ (30 : Int32) then ((fn_X0_findsPartner_11 f_X0_findsPartner a0 v1 v2 v3 zFU (0 : Int32) D)) else ((some ((0 : Int32), D))))
theorem s_X0_findsPartner_119 {X : zX} {Sh : zSh} {d : Nat} (hst : (zl X).stackTraces = false) (h0 : zSh0 Sh) (hd : 0 ≤ d) {a0 : Nat} {v1 : Int32} {v2 : Int32} {v3 : Int32} (f_X0_findsPartner : Nat → Int32 → Int32 → Int32 → zD → Option (Int32 × zD)) (hf_X0_findsPartner : ∀ (a0 : Nat) (v1 : Int32) (v2 : Int32) (v3 : Int32) (D : zD) (h_a0 : a0 ∈ zI_0), Sd X m_X0_findsPartner d [.ref a0, .int v1, .int v2, .int v3] (Sh, D) ((oI Sh) (f_X0_findsPartner a0 v1 v2 v3 D))) (h_a0 : a0 ∈ zI_0) (v5 : Int32) (D : zD)  : Rn X m_X0_findsPartner (d + 1) 119 [(0, .ref a0), (2, .int v2), (5, .int v5)] [] (Sh, D) ((oI Sh) (fn_X0_findsPartner_119 f_X0_findsPartner a0 v1 v2 v3 v5 D)) := by
  rw [fn_X0_findsPartner_119]
  refine r_aload_n (pc := 119) 0 d_X0_findsPartner_119 rfl rfl ?_
  refine r_getR (pc := 120) g_X0_37 (LK_0 h0 h_a0) rfl (LR_0_10 h0 h_a0) d_X0_findsPartner_120 ?_
  refine r_iload (pc := 123) 2 d_X0_findsPartner_123 rfl ?_
  refine r_iload_n (pc := 125) 1 d_X0_findsPartner_125 rfl rfl ?_
  refine r_ck (f := (oI Sh)) rfl (fun hc14 => ?_)
  refine q_iast (pc := 126) (j := v5.toNatClampNeg) (LA_0_10 h0 h_a0) hc14 rfl  d_X0_findsPartner_126 ?_
  refine r_letD (f := (oI Sh)) (fun D15 => ?_)
  refine r_iconst (pc := 127) (1 : Int32) d_X0_findsPartner_127 rfl ?_
  exact r_zret (pc := 128) rfl (by decide) d_X0_findsPartner_128
theorem s_X0_findsPartner_11 {X : zX} {Sh : zSh} {d : Nat} (hst : (zl X).stackTraces = false) (h0 : zSh0 Sh) (hd : 0 ≤ d) {a0 : Nat} {v1 : Int32} {v2 : Int32} {v3 : Int32} (f_X0_findsPartner : Nat → Int32 → Int32 → Int32 → zD → Option (Int32 × zD)) (hf_X0_findsPartner : ∀ (a0 : Nat) (v1 : Int32) (v2 : Int32) (v3 : Int32) (D : zD) (h_a0 : a0 ∈ zI_0), Sd X m_X0_findsPartner d [.ref a0, .int v1, .int v2, .int v3] (Sh, D) ((oI Sh) (f_X0_findsPartner a0 v1 v2 v3 D))) (h_a0 : a0 ∈ zI_0) : ∀ (n : Nat) (v4 : Int32) (D : zD) , Rn X m_X0_findsPartner (d + 1) 11 [(0, .ref a0), (1, .int v1), (2, .int v2), (3, .int v3), (4, .int v4)] [] (Sh, D) ((oI Sh) (fn_X0_findsPartner_11 f_X0_findsPartner a0 v1 v2 v3 n v4 D)) := by
  intro n
  induction n with
  | zero => intro v4 D; exact Rn_none rfl
  | succ n hk11 =>
    intro v4 D
    rw [fn_X0_findsPartner_11]
    refine r_iload (pc := 11) 4 d_X0_findsPartner_11 rfl ?_
    refine r_bipush (pc := 13) (30 : Int32) d_X0_findsPartner_13 rfl ?_
    refine r_icmp_ge (f := (oI Sh)) (pc := 15) 135 d_X0_findsPartner_15 (by decide) (fun c2 => ?_) (fun c2 => ?_)
    · refine r_iconst (pc := 135) (0 : Int32) d_X0_findsPartner_135 rfl ?_
      exact r_zret (pc := 136) rfl (by decide) d_X0_findsPartner_136
    · refine r_iload_n (pc := 18) 1 d_X0_findsPartner_18 rfl rfl ?_
      refine r_iload (pc := 19) 4 d_X0_findsPartner_19 rfl ?_
      refine r_ishr (pc := 21) d_X0_findsPartner_21 ?_
      refine r_iconst (pc := 22) (1 : Int32) d_X0_findsPartner_22 rfl ?_
      refine r_iand (pc := 23) d_X0_findsPartner_23 ?_
      refine r_if_eq (f := (oI Sh)) (pc := 24) 129 d_X0_findsPartner_24 (by decide) (fun c3 => ?_) (fun c3 => ?_)
      · refine r_iinc (pc := 129) ((v4 + (1 : Int32))) 4 (ls' := [(4, .int (v4 + (1 : Int32))), (0, .ref a0), (1, .int v1), (2, .int v2), (3, .int v3)]) d_X0_findsPartner_129 rfl rfl (Nat.le_of_ble_eq_true rfl) rfl ?_
        refine r_goto (pc := 132) 11 d_X0_findsPartner_132 (by decide) ?_
        refine r_pick [1, 2, 3, 4, 0] (ls' := [(0, .ref a0), (1, .int v1), (2, .int v2), (3, .int v3), (4, .int (v4 + (1 : Int32)))]) rfl ?_
        exact hk11 (v4 + (1 : Int32)) D 
      · refine r_aload_n (pc := 27) 0 d_X0_findsPartner_27 rfl rfl ?_
        refine r_getR (pc := 28) g_X0_31 (LK_0 h0 h_a0) rfl (LR_0_8 h0 h_a0) d_X0_findsPartner_28 ?_
        refine r_iload (pc := 31) 4 d_X0_findsPartner_31 rfl ?_
        refine r_ck (f := (oI Sh)) rfl (fun hc4 => ?_)
        refine q_iald (pc := 33) (j := v4.toNatClampNeg) (LA_0_8 h0 h_a0) hc4 rfl d_X0_findsPartner_33 ?_
        refine r_iload_n (pc := 34) 2 d_X0_findsPartner_34 rfl rfl ?_
        refine r_icmp_eq (f := (oI Sh)) (pc := 35) 41 d_X0_findsPartner_35 (by decide) (fun c5 => ?_) (fun c5 => ?_)
        · refine r_aload_n (pc := 41) 0 d_X0_findsPartner_41 rfl rfl ?_
          refine r_getR (pc := 42) g_X0_34 (LK_0 h0 h_a0) rfl (LR_0_9 h0 h_a0) d_X0_findsPartner_42 ?_
          refine r_iload (pc := 45) 4 d_X0_findsPartner_45 rfl ?_
          refine r_ck (f := (oI Sh)) rfl (fun hc6 => ?_)
          refine q_iald (pc := 47) (j := v4.toNatClampNeg) (LA_0_9 h0 h_a0) hc6 rfl d_X0_findsPartner_47 ?_
          refine r_leti (f := (oI Sh)) (fun x7 => ?_)
          refine r_istore (pc := 48) (ls' := [(5, .int x7), (0, .ref a0), (1, .int v1), (2, .int v2), (3, .int v3), (4, .int v4)]) d_X0_findsPartner_48 (Nat.le_of_ble_eq_true rfl) rfl ?_
          refine r_iload (pc := 50) 0 d_X0_findsPartner_50 rfl ?_
          refine r_if_lt (f := (oI Sh)) (pc := 52) 129 d_X0_findsPartner_52 (by decide) (fun c8 => ?_) (fun c8 => ?_)
          · refine r_iinc (pc := 129) ((v4 + (1 : Int32))) 5 (ls' := [(4, .int (v4 + (1 : Int32))), (5, .int x7), (0, .ref a0), (1, .int v1), (2, .int v2), (3, .int v3)]) d_X0_findsPartner_129 rfl rfl (Nat.le_of_ble_eq_true rfl) rfl ?_
            refine r_goto (pc := 132) 11 d_X0_findsPartner_132 (by decide) ?_
            refine r_pick [2, 3, 4, 5, 0] (ls' := [(0, .ref a0), (1, .int v1), (2, .int v2), (3, .int v3), (4, .int (v4 + (1 : Int32)))]) rfl ?_
            exact hk11 (v4 + (1 : Int32)) D 
          · refine r_iload (pc := 55) 0 d_X0_findsPartner_55 rfl ?_
            refine r_bipush (pc := 57) (30 : Int32) d_X0_findsPartner_57 rfl ?_
            refine r_icmp_ge (f := (oI Sh)) (pc := 59) 129 d_X0_findsPartner_59 (by decide) (fun c9 => ?_) (fun c9 => ?_)
            · refine r_iinc (pc := 129) ((v4 + (1 : Int32))) 5 (ls' := [(4, .int (v4 + (1 : Int32))), (5, .int x7), (0, .ref a0), (1, .int v1), (2, .int v2), (3, .int v3)]) d_X0_findsPartner_129 rfl rfl (Nat.le_of_ble_eq_true rfl) rfl ?_
              refine r_goto (pc := 132) 11 d_X0_findsPartner_132 (by decide) ?_
              refine r_pick [2, 3, 4, 5, 0] (ls' := [(0, .ref a0), (1, .int v1), (2, .int v2), (3, .int v3), (4, .int (v4 + (1 : Int32)))]) rfl ?_
              exact hk11 (v4 + (1 : Int32)) D 
            · refine r_aload_n (pc := 62) 1 d_X0_findsPartner_62 rfl rfl ?_
              refine q_gI (pc := 63) g_X0_94 (LK_0 h0 h_a0) rfl d_X0_findsPartner_63 ?_
              refine r_iload (pc := 66) 0 d_X0_findsPartner_66 rfl ?_
              refine r_ishr (pc := 68) d_X0_findsPartner_68 ?_
              refine r_iconst (pc := 69) (1 : Int32) d_X0_findsPartner_69 rfl ?_
              refine r_iand (pc := 70) d_X0_findsPartner_70 ?_
              refine r_if_eq (f := (oI Sh)) (pc := 71) 77 d_X0_findsPartner_71 (by decide) (fun c10 => ?_) (fun c10 => ?_)
              · refine r_aload_n (pc := 77) 1 d_X0_findsPartner_77 rfl rfl ?_
                refine r_dup (pc := 78) d_X0_findsPartner_78 rfl ?_
                refine q_gI (pc := 79) g_X0_94 (LK_0 h0 h_a0) rfl d_X0_findsPartner_79 ?_
                refine r_iconst (pc := 82) (1 : Int32) d_X0_findsPartner_82 rfl ?_
                refine r_iload (pc := 83) 0 d_X0_findsPartner_83 rfl ?_
                refine r_ishl (pc := 85) d_X0_findsPartner_85 ?_
                refine r_ior (pc := 86) d_X0_findsPartner_86 ?_
                refine r_putI (pc := 87) p_X0_94 (LK_0 h0 h_a0) rfl (Or.inl rfl) d_X0_findsPartner_87 ?_
                refine r_letD (f := (oI Sh)) (fun D11 => ?_)
                refine r_aload_n (pc := 90) 1 d_X0_findsPartner_90 rfl rfl ?_
                refine r_getR (pc := 91) g_X0_37 (LK_0 h0 h_a0) rfl (LR_0_10 h0 h_a0) d_X0_findsPartner_91 ?_
                refine r_iload (pc := 94) 0 d_X0_findsPartner_94 rfl ?_
                refine r_ck (f := (oI Sh)) rfl (fun hc12 => ?_)
                refine q_iald (pc := 96) (j := x7.toNatClampNeg) (LA_0_10 h0 h_a0) hc12 rfl d_X0_findsPartner_96 ?_
                refine r_iconst (pc := 97) (-1 : Int32) d_X0_findsPartner_97 rfl ?_
                refine r_icmp_eq (f := (oI Sh)) (pc := 98) 119 d_X0_findsPartner_98 (by decide) (fun c13 => ?_) (fun c13 => ?_)
                · refine r_pick [1, 3, 0] (ls' := [(0, .ref a0), (2, .int v2), (5, .int x7)]) rfl ?_
                  exact s_X0_findsPartner_119 hst h0 hd f_X0_findsPartner hf_X0_findsPartner h_a0 x7 D11
                · refine r_aload_n (pc := 101) 1 d_X0_findsPartner_101 rfl rfl ?_
                  refine r_iload_n (pc := 102) 2 d_X0_findsPartner_102 rfl rfl ?_
                  refine r_aload_n (pc := 103) 1 d_X0_findsPartner_103 rfl rfl ?_
                  refine r_getR (pc := 104) g_X0_37 (LK_0 h0 h_a0) rfl (LR_0_10 h0 h_a0) d_X0_findsPartner_104 ?_
                  refine r_iload (pc := 107) 0 d_X0_findsPartner_107 rfl ?_
                  refine r_ck (f := (oI Sh)) rfl (fun hc16 => ?_)
                  refine q_iald (pc := 109) (j := x7.toNatClampNeg) (LA_0_10 h0 h_a0) hc16 rfl d_X0_findsPartner_109 ?_
                  refine r_iload_n (pc := 110) 4 d_X0_findsPartner_110 rfl rfl ?_
                  refine r_iconst (pc := 111) (1 : Int32) d_X0_findsPartner_111 rfl ?_
                  refine r_iadd (pc := 112) d_X0_findsPartner_112 ?_
                  refine q_cI (f := (oI Sh)) (av := [.ref a0, .int v1, .int (gI D11 (a0 + 7) x7.toNatClampNeg), .int (v3 + (1 : Int32))]) (st := []) (z_runV ck_X0_findsPartner rfl ml_X0_97 ci_X0_findsPartner cv_X0_findsPartner (LK_0 h0 h_a0) (ci := 0) rfl rfl (Nat.le_of_ble_eq_true rfl) d_X0_findsPartner_113) (hf_X0_findsPartner a0 v1 (gI D11 (a0 + 7) x7.toNatClampNeg) (v3 + (1 : Int32)) D11 h_a0) kp_I (fun q17 _ => ?_)
                  refine r_if_eq (f := (oI Sh)) (pc := 116) 129 d_X0_findsPartner_116 (by decide) (fun c18 => ?_) (fun c18 => ?_)
                  · refine r_iinc (pc := 129) ((v4 + (1 : Int32))) 5 (ls' := [(4, .int (v4 + (1 : Int32))), (5, .int x7), (0, .ref a0), (1, .int v1), (2, .int v2), (3, .int v3)]) d_X0_findsPartner_129 rfl rfl (Nat.le_of_ble_eq_true rfl) rfl ?_
                    refine r_goto (pc := 132) 11 d_X0_findsPartner_132 (by decide) ?_
                    refine r_pick [2, 3, 4, 5, 0] (ls' := [(0, .ref a0), (1, .int v1), (2, .int v2), (3, .int v3), (4, .int (v4 + (1 : Int32)))]) rfl ?_
                    exact hk11 (v4 + (1 : Int32)) q17.2 
                  · refine r_pick [1, 3, 0] (ls' := [(0, .ref a0), (2, .int v2), (5, .int x7)]) rfl ?_
                    exact s_X0_findsPartner_119 hst h0 hd f_X0_findsPartner hf_X0_findsPartner h_a0 x7 q17.2
              · refine r_goto (pc := 74) 129 d_X0_findsPartner_74 (by decide) ?_
                refine r_iinc (pc := 129) ((v4 + (1 : Int32))) 5 (ls' := [(4, .int (v4 + (1 : Int32))), (5, .int x7), (0, .ref a0), (1, .int v1), (2, .int v2), (3, .int v3)]) d_X0_findsPartner_129 rfl rfl (Nat.le_of_ble_eq_true rfl) rfl ?_
                refine r_goto (pc := 132) 11 d_X0_findsPartner_132 (by decide) ?_
                refine r_pick [2, 3, 4, 5, 0] (ls' := [(0, .ref a0), (1, .int v1), (2, .int v2), (3, .int v3), (4, .int (v4 + (1 : Int32)))]) rfl ?_
                exact hk11 (v4 + (1 : Int32)) D 
        · refine r_goto (pc := 38) 129 d_X0_findsPartner_38 (by decide) ?_
          refine r_iinc (pc := 129) ((v4 + (1 : Int32))) 4 (ls' := [(4, .int (v4 + (1 : Int32))), (0, .ref a0), (1, .int v1), (2, .int v2), (3, .int v3)]) d_X0_findsPartner_129 rfl rfl (Nat.le_of_ble_eq_true rfl) rfl ?_
          refine r_goto (pc := 132) 11 d_X0_findsPartner_132 (by decide) ?_
          refine r_pick [1, 2, 3, 4, 0] (ls' := [(0, .ref a0), (1, .int v1), (2, .int v2), (3, .int v3), (4, .int (v4 + (1 : Int32)))]) rfl ?_
          exact hk11 (v4 + (1 : Int32)) D 
theorem b_X0_findsPartner {X : zX} {Sh : zSh} {d : Nat} (hst : (zl X).stackTraces = false) (h0 : zSh0 Sh) (hd : 0 ≤ d) {a0 : Nat} {v1 : Int32} {v2 : Int32} {v3 : Int32} (f_X0_findsPartner : Nat → Int32 → Int32 → Int32 → zD → Option (Int32 × zD)) (hf_X0_findsPartner : ∀ (a0 : Nat) (v1 : Int32) (v2 : Int32) (v3 : Int32) (D : zD) (h_a0 : a0 ∈ zI_0), Sd X m_X0_findsPartner d [.ref a0, .int v1, .int v2, .int v3] (Sh, D) ((oI Sh) (f_X0_findsPartner a0 v1 v2 v3 D))) (h_a0 : a0 ∈ zI_0) {D : zD} : Sd X m_X0_findsPartner (d + 1) [.ref a0, .int v1, .int v2, .int v3] (Sh, D) ((oI Sh) (fn_X0_findsPartner f_X0_findsPartner a0 v1 v2 v3 D)) := by
  refine z_body ck_X0_findsPartner rfl (Nat.le_of_ble_eq_true rfl) rfl hst ?_
  rw [fn_X0_findsPartner]
  show Rn X m_X0_findsPartner (d + 1) 0 [(0, .ref a0), (1, .int v1), (2, .int v2), (3, .int v3)] [] (Sh, D) _
  refine r_iload_n (pc := 0) 3 d_X0_findsPartner_0 rfl rfl ?_
  refine r_bipush (pc := 1) (30 : Int32) d_X0_findsPartner_1 rfl ?_
  refine r_icmp_le (f := (oI Sh)) (pc := 3) 8 d_X0_findsPartner_3 (by decide) (fun c1 => ?_) (fun c1 => ?_)
  · refine r_iconst (pc := 8) (0 : Int32) d_X0_findsPartner_8 rfl ?_
    refine r_istore (pc := 9) (ls' := [(4, .int (0 : Int32)), (0, .ref a0), (1, .int v1), (2, .int v2), (3, .int v3)]) d_X0_findsPartner_9 (Nat.le_of_ble_eq_true rfl) rfl ?_
    refine r_pick [1, 2, 3, 4, 0] (ls' := [(0, .ref a0), (1, .int v1), (2, .int v2), (3, .int v3), (4, .int (0 : Int32))]) rfl ?_
    exact s_X0_findsPartner_11 hst h0 hd f_X0_findsPartner hf_X0_findsPartner h_a0 zFU  (0 : Int32) D
  · refine r_iconst (pc := 6) (0 : Int32) d_X0_findsPartner_6 rfl ?_
    exact r_zret (pc := 7) rfl (by decide) d_X0_findsPartner_7
def fn_X0_findsPartnerR : Nat → Nat → Int32 → Int32 → Int32 → zD → Option (Int32 × zD)
  | 0, _, _, _, _, _ => none
  | n + 1, a0, v1, v2, v3, D => fn_X0_findsPartner (fn_X0_findsPartnerR n) a0 v1 v2 v3 D
theorem s_X0_findsPartnerR {X : zX} {Sh : zSh} (hst : (zl X).stackTraces = false) (h0 : zSh0 Sh) : ∀ (n d : Nat) (hd : n * 1 + 0 ≤ d) (a0 : Nat) (v1 : Int32) (v2 : Int32) (v3 : Int32) (D : zD) (h_a0 : a0 ∈ zI_0), Sd X m_X0_findsPartner d [.ref a0, .int v1, .int v2, .int v3] (Sh, D) ((oI Sh) (fn_X0_findsPartnerR n a0 v1 v2 v3 D))
  | 0, d, _, _, _, _, _, _, _ => fun o M' h => by cases h
  | n + 1, d, hd, a0, v1, v2, v3, D, h_a0 => by
    obtain ⟨d, rfl⟩ : ∃ e, d = e + 1 := ⟨d - 1, by omega⟩
    exact b_X0_findsPartner hst h0 (by omega) (fn_X0_findsPartnerR n) (fun a0 v1 v2 v3 D h_a0 => s_X0_findsPartnerR hst h0 n d (by omega) a0 v1 v2 v3 D h_a0) h_a0
def fn_X0_findsPartnerT (a0 : Nat) (v1 : Int32) (v2 : Int32) (v3 : Int32) (D : zD) : Option (Int32 × zD) := fn_X0_findsPartnerR 100 a0 v1 v2 v3 D
theorem s_X0_findsPartnerT {X : zX} {Sh : zSh} {d : Nat} (hst : (zl X).stackTraces = false) (h0 : zSh0 Sh) (hd : 100 ≤ d) {a0 : Nat} {v1 : Int32} {v2 : Int32} {v3 : Int32} (h_a0 : a0 ∈ zI_0) {D : zD} : Sd X m_X0_findsPartner d [.ref a0, .int v1, .int v2, .int v3] (Sh, D) ((oI Sh) (fn_X0_findsPartnerT a0 v1 v2 v3 D)) := s_X0_findsPartnerR hst h0 100 d (by omega) a0 v1 v2 v3 D h_a0
/-! CoveredSigns$Alphabet.numberRows -/
theorem d_X0_numberRows_0 : decode (yB m_X0_numberRows) 0 = .ok (.iconst 0, 1) := by decide +kernel
theorem d_X0_numberRows_1 : decode (yB m_X0_numberRows) 1 = .ok (.istore_n 2, 1) := by decide +kernel
theorem d_X0_numberRows_2 : decode (yB m_X0_numberRows) 2 = .ok (.iconst 0, 1) := by decide +kernel
theorem d_X0_numberRows_3 : decode (yB m_X0_numberRows) 3 = .ok (.istore_n 3, 1) := by decide +kernel
theorem d_X0_numberRows_4 : decode (yB m_X0_numberRows) 4 = .ok (.iconst 0, 1) := by decide +kernel
theorem d_X0_numberRows_5 : decode (yB m_X0_numberRows) 5 = .ok (.istore 4, 2) := by decide +kernel
theorem d_X0_numberRows_7 : decode (yB m_X0_numberRows) 7 = .ok (.iload 4, 2) := by decide +kernel
theorem d_X0_numberRows_9 : decode (yB m_X0_numberRows) 9 = .ok (.aload_n 0, 1) := by decide +kernel
theorem d_X0_numberRows_10 : decode (yB m_X0_numberRows) 10 = .ok (.getfield 15, 3) := by decide +kernel
theorem d_X0_numberRows_13 : decode (yB m_X0_numberRows) 13 = .ok (.if_icmp .ge 198, 3) := by decide +kernel
theorem d_X0_numberRows_16 : decode (yB m_X0_numberRows) 16 = .ok (.iconst 0, 1) := by decide +kernel
theorem d_X0_numberRows_17 : decode (yB m_X0_numberRows) 17 = .ok (.istore 5, 2) := by decide +kernel
theorem d_X0_numberRows_19 : decode (yB m_X0_numberRows) 19 = .ok (.iload 5, 2) := by decide +kernel
theorem d_X0_numberRows_21 : decode (yB m_X0_numberRows) 21 = .ok (.aload_n 0, 1) := by decide +kernel
theorem d_X0_numberRows_22 : decode (yB m_X0_numberRows) 22 = .ok (.getfield 9, 3) := by decide +kernel
theorem d_X0_numberRows_25 : decode (yB m_X0_numberRows) 25 = .ok (.if_icmp .ge 180, 3) := by decide +kernel
theorem d_X0_numberRows_28 : decode (yB m_X0_numberRows) 28 = .ok (.aload_n 0, 1) := by decide +kernel
theorem d_X0_numberRows_29 : decode (yB m_X0_numberRows) 29 = .ok (.getfield 9, 3) := by decide +kernel
theorem d_X0_numberRows_32 : decode (yB m_X0_numberRows) 32 = .ok (.iload 4, 2) := by decide +kernel
theorem d_X0_numberRows_34 : decode (yB m_X0_numberRows) 34 = .ok (.imul, 1) := by decide +kernel
theorem d_X0_numberRows_35 : decode (yB m_X0_numberRows) 35 = .ok (.iload 5, 2) := by decide +kernel
theorem d_X0_numberRows_37 : decode (yB m_X0_numberRows) 37 = .ok (.iadd, 1) := by decide +kernel
theorem d_X0_numberRows_38 : decode (yB m_X0_numberRows) 38 = .ok (.istore 6, 2) := by decide +kernel
theorem d_X0_numberRows_40 : decode (yB m_X0_numberRows) 40 = .ok (.iload_n 1, 1) := by decide +kernel
theorem d_X0_numberRows_41 : decode (yB m_X0_numberRows) 41 = .ok (.iload 6, 2) := by decide +kernel
theorem d_X0_numberRows_43 : decode (yB m_X0_numberRows) 43 = .ok (.ishr, 1) := by decide +kernel
theorem d_X0_numberRows_44 : decode (yB m_X0_numberRows) 44 = .ok (.iconst 1, 1) := by decide +kernel
theorem d_X0_numberRows_45 : decode (yB m_X0_numberRows) 45 = .ok (.iand, 1) := by decide +kernel
theorem d_X0_numberRows_46 : decode (yB m_X0_numberRows) 46 = .ok (.ifCond .eq 7, 3) := by decide +kernel
theorem d_X0_numberRows_49 : decode (yB m_X0_numberRows) 49 = .ok (.iconst 1, 1) := by decide +kernel
theorem d_X0_numberRows_50 : decode (yB m_X0_numberRows) 50 = .ok (.goto 4, 3) := by decide +kernel
theorem d_X0_numberRows_53 : decode (yB m_X0_numberRows) 53 = .ok (.iconst 0, 1) := by decide +kernel
theorem d_X0_numberRows_54 : decode (yB m_X0_numberRows) 54 = .ok (.istore 7, 2) := by decide +kernel
theorem d_X0_numberRows_56 : decode (yB m_X0_numberRows) 56 = .ok (.iload 7, 2) := by decide +kernel
theorem d_X0_numberRows_58 : decode (yB m_X0_numberRows) 58 = .ok (.ifCond .eq 141, 3) := by decide +kernel
theorem d_X0_numberRows_61 : decode (yB m_X0_numberRows) 61 = .ok (.iload 6, 2) := by decide +kernel
theorem d_X0_numberRows_63 : decode (yB m_X0_numberRows) 63 = .ok (.ifCond .lt 136, 3) := by decide +kernel
theorem d_X0_numberRows_66 : decode (yB m_X0_numberRows) 66 = .ok (.iload 6, 2) := by decide +kernel
theorem d_X0_numberRows_68 : decode (yB m_X0_numberRows) 68 = .ok (.bipush 30, 2) := by decide +kernel
theorem d_X0_numberRows_70 : decode (yB m_X0_numberRows) 70 = .ok (.if_icmp .lt 6, 3) := by decide +kernel
theorem d_X0_numberRows_73 : decode (yB m_X0_numberRows) 73 = .ok (.goto 126, 3) := by decide +kernel
theorem d_X0_numberRows_76 : decode (yB m_X0_numberRows) 76 = .ok (.iload 5, 2) := by decide +kernel
theorem d_X0_numberRows_78 : decode (yB m_X0_numberRows) 78 = .ok (.ifCond .le 18, 3) := by decide +kernel
theorem d_X0_numberRows_81 : decode (yB m_X0_numberRows) 81 = .ok (.iload_n 1, 1) := by decide +kernel
theorem d_X0_numberRows_82 : decode (yB m_X0_numberRows) 82 = .ok (.iload 6, 2) := by decide +kernel
theorem d_X0_numberRows_84 : decode (yB m_X0_numberRows) 84 = .ok (.iconst 1, 1) := by decide +kernel
theorem d_X0_numberRows_85 : decode (yB m_X0_numberRows) 85 = .ok (.isub, 1) := by decide +kernel
theorem d_X0_numberRows_86 : decode (yB m_X0_numberRows) 86 = .ok (.ishr, 1) := by decide +kernel
theorem d_X0_numberRows_87 : decode (yB m_X0_numberRows) 87 = .ok (.iconst 1, 1) := by decide +kernel
theorem d_X0_numberRows_88 : decode (yB m_X0_numberRows) 88 = .ok (.iand, 1) := by decide +kernel
theorem d_X0_numberRows_89 : decode (yB m_X0_numberRows) 89 = .ok (.ifCond .eq 7, 3) := by decide +kernel
theorem d_X0_numberRows_92 : decode (yB m_X0_numberRows) 92 = .ok (.iconst 1, 1) := by decide +kernel
theorem d_X0_numberRows_93 : decode (yB m_X0_numberRows) 93 = .ok (.goto 4, 3) := by decide +kernel
theorem d_X0_numberRows_96 : decode (yB m_X0_numberRows) 96 = .ok (.iconst 0, 1) := by decide +kernel
theorem d_X0_numberRows_97 : decode (yB m_X0_numberRows) 97 = .ok (.istore 8, 2) := by decide +kernel
theorem d_X0_numberRows_99 : decode (yB m_X0_numberRows) 99 = .ok (.aload_n 0, 1) := by decide +kernel
theorem d_X0_numberRows_100 : decode (yB m_X0_numberRows) 100 = .ok (.getfield 31, 3) := by decide +kernel
theorem d_X0_numberRows_103 : decode (yB m_X0_numberRows) 103 = .ok (.iload 6, 2) := by decide +kernel
theorem d_X0_numberRows_105 : decode (yB m_X0_numberRows) 105 = .ok (.iload 8, 2) := by decide +kernel
theorem d_X0_numberRows_107 : decode (yB m_X0_numberRows) 107 = .ok (.ifCond .eq 21, 3) := by decide +kernel
theorem d_X0_numberRows_110 : decode (yB m_X0_numberRows) 110 = .ok (.iload 6, 2) := by decide +kernel
theorem d_X0_numberRows_112 : decode (yB m_X0_numberRows) 112 = .ok (.iconst 1, 1) := by decide +kernel
theorem d_X0_numberRows_113 : decode (yB m_X0_numberRows) 113 = .ok (.if_icmp .lt 15, 3) := by decide +kernel
theorem d_X0_numberRows_116 : decode (yB m_X0_numberRows) 116 = .ok (.aload_n 0, 1) := by decide +kernel
theorem d_X0_numberRows_117 : decode (yB m_X0_numberRows) 117 = .ok (.getfield 31, 3) := by decide +kernel
theorem d_X0_numberRows_120 : decode (yB m_X0_numberRows) 120 = .ok (.iload 6, 2) := by decide +kernel
theorem d_X0_numberRows_122 : decode (yB m_X0_numberRows) 122 = .ok (.iconst 1, 1) := by decide +kernel
theorem d_X0_numberRows_123 : decode (yB m_X0_numberRows) 123 = .ok (.isub, 1) := by decide +kernel
theorem d_X0_numberRows_124 : decode (yB m_X0_numberRows) 124 = .ok (.iaload, 1) := by decide +kernel
theorem d_X0_numberRows_125 : decode (yB m_X0_numberRows) 125 = .ok (.goto 7, 3) := by decide +kernel
theorem d_X0_numberRows_128 : decode (yB m_X0_numberRows) 128 = .ok (.iload_n 2, 1) := by decide +kernel
theorem d_X0_numberRows_129 : decode (yB m_X0_numberRows) 129 = .ok (.iinc 2 1, 3) := by decide +kernel
theorem d_X0_numberRows_132 : decode (yB m_X0_numberRows) 132 = .ok (.iastore, 1) := by decide +kernel
theorem d_X0_numberRows_133 : decode (yB m_X0_numberRows) 133 = .ok (.iload 4, 2) := by decide +kernel
theorem d_X0_numberRows_135 : decode (yB m_X0_numberRows) 135 = .ok (.ifCond .le 30, 3) := by decide +kernel
theorem d_X0_numberRows_138 : decode (yB m_X0_numberRows) 138 = .ok (.iload 6, 2) := by decide +kernel
theorem d_X0_numberRows_140 : decode (yB m_X0_numberRows) 140 = .ok (.aload_n 0, 1) := by decide +kernel
theorem d_X0_numberRows_141 : decode (yB m_X0_numberRows) 141 = .ok (.getfield 9, 3) := by decide +kernel
theorem d_X0_numberRows_144 : decode (yB m_X0_numberRows) 144 = .ok (.if_icmp .lt 21, 3) := by decide +kernel
theorem d_X0_numberRows_147 : decode (yB m_X0_numberRows) 147 = .ok (.iload_n 1, 1) := by decide +kernel
theorem d_X0_numberRows_148 : decode (yB m_X0_numberRows) 148 = .ok (.iload 6, 2) := by decide +kernel
theorem d_X0_numberRows_150 : decode (yB m_X0_numberRows) 150 = .ok (.aload_n 0, 1) := by decide +kernel
theorem d_X0_numberRows_151 : decode (yB m_X0_numberRows) 151 = .ok (.getfield 9, 3) := by decide +kernel
theorem d_X0_numberRows_154 : decode (yB m_X0_numberRows) 154 = .ok (.isub, 1) := by decide +kernel
theorem d_X0_numberRows_155 : decode (yB m_X0_numberRows) 155 = .ok (.ishr, 1) := by decide +kernel
theorem d_X0_numberRows_156 : decode (yB m_X0_numberRows) 156 = .ok (.iconst 1, 1) := by decide +kernel
theorem d_X0_numberRows_157 : decode (yB m_X0_numberRows) 157 = .ok (.iand, 1) := by decide +kernel
theorem d_X0_numberRows_158 : decode (yB m_X0_numberRows) 158 = .ok (.ifCond .eq 7, 3) := by decide +kernel
theorem d_X0_numberRows_161 : decode (yB m_X0_numberRows) 161 = .ok (.iconst 1, 1) := by decide +kernel
theorem d_X0_numberRows_162 : decode (yB m_X0_numberRows) 162 = .ok (.goto 4, 3) := by decide +kernel
theorem d_X0_numberRows_165 : decode (yB m_X0_numberRows) 165 = .ok (.iconst 0, 1) := by decide +kernel
theorem d_X0_numberRows_166 : decode (yB m_X0_numberRows) 166 = .ok (.istore 9, 2) := by decide +kernel
theorem d_X0_numberRows_168 : decode (yB m_X0_numberRows) 168 = .ok (.aload_n 0, 1) := by decide +kernel
theorem d_X0_numberRows_169 : decode (yB m_X0_numberRows) 169 = .ok (.getfield 34, 3) := by decide +kernel
theorem d_X0_numberRows_172 : decode (yB m_X0_numberRows) 172 = .ok (.iload 6, 2) := by decide +kernel
theorem d_X0_numberRows_174 : decode (yB m_X0_numberRows) 174 = .ok (.iload 9, 2) := by decide +kernel
theorem d_X0_numberRows_176 : decode (yB m_X0_numberRows) 176 = .ok (.ifCond .eq 18, 3) := by decide +kernel
theorem d_X0_numberRows_179 : decode (yB m_X0_numberRows) 179 = .ok (.aload_n 0, 1) := by decide +kernel
theorem d_X0_numberRows_180 : decode (yB m_X0_numberRows) 180 = .ok (.getfield 34, 3) := by decide +kernel
theorem d_X0_numberRows_183 : decode (yB m_X0_numberRows) 183 = .ok (.iload 6, 2) := by decide +kernel
theorem d_X0_numberRows_185 : decode (yB m_X0_numberRows) 185 = .ok (.aload_n 0, 1) := by decide +kernel
theorem d_X0_numberRows_186 : decode (yB m_X0_numberRows) 186 = .ok (.getfield 9, 3) := by decide +kernel
theorem d_X0_numberRows_189 : decode (yB m_X0_numberRows) 189 = .ok (.isub, 1) := by decide +kernel
theorem d_X0_numberRows_190 : decode (yB m_X0_numberRows) 190 = .ok (.iaload, 1) := by decide +kernel
theorem d_X0_numberRows_191 : decode (yB m_X0_numberRows) 191 = .ok (.goto 7, 3) := by decide +kernel
theorem d_X0_numberRows_194 : decode (yB m_X0_numberRows) 194 = .ok (.iload_n 3, 1) := by decide +kernel
theorem d_X0_numberRows_195 : decode (yB m_X0_numberRows) 195 = .ok (.iinc 3 1, 3) := by decide +kernel
theorem d_X0_numberRows_198 : decode (yB m_X0_numberRows) 198 = .ok (.iastore, 1) := by decide +kernel
theorem d_X0_numberRows_199 : decode (yB m_X0_numberRows) 199 = .ok (.iinc 5 1, 3) := by decide +kernel
theorem d_X0_numberRows_202 : decode (yB m_X0_numberRows) 202 = .ok (.goto (-183), 3) := by decide +kernel
theorem d_X0_numberRows_205 : decode (yB m_X0_numberRows) 205 = .ok (.iinc 4 1, 3) := by decide +kernel
theorem d_X0_numberRows_208 : decode (yB m_X0_numberRows) 208 = .ok (.goto (-201), 3) := by decide +kernel
theorem d_X0_numberRows_211 : decode (yB m_X0_numberRows) 211 = .ok (.return_, 1) := by decide +kernel
def fn_X0_numberRows_166 (a0 : Nat) (v1 : Int32) (k19 : Int32 → Int32 → Int32 → Int32 → zD → Option zD) (v2 : Int32) (v3 : Int32) (v4 : Int32) (v5 : Int32) (v6 : Int32) (w0 : Int32) (D : zD) : Option zD := (if w0 = 0 then (zck v6 30 <| zlet (sI D (a0 + 6) v6.toNatClampNeg v3) fun D15 => (k19 v2 (v3 + (1 : Int32)) v4 (v5 + (1 : Int32)) D15)) else (zck (v6 - (gI D a0 0)) 30 <| zck v6 30 <| zlet (sI D (a0 + 6) v6.toNatClampNeg (gI D (a0 + 6) (v6 - (gI D a0 0)).toNatClampNeg)) fun D18 => (k19 v2 v3 v4 (v5 + (1 : Int32)) D18)))
def fn_X0_numberRows_165 (a0 : Nat) (v1 : Int32) (k19 : Int32 → Int32 → Int32 → Int32 → zD → Option zD) (v2 : Int32) (v3 : Int32) (v4 : Int32) (v5 : Int32) (v6 : Int32) (D : zD) : Option zD := (fn_X0_numberRows_166 a0 v1 k19 v2 v3 v4 v5 v6 (0 : Int32) D)
def fn_X0_numberRows_132 (a0 : Nat) (v1 : Int32) (k19 : Int32 → Int32 → Int32 → Int32 → zD → Option zD) (v2 : Int32) (v3 : Int32) (v4 : Int32) (v5 : Int32) (v6 : Int32) (o0 : Nat) (w1 : Int32) (w2 : Int32) (D : zD) : Option zD := zck w1 30 <| zlet (sI D o0 w1.toNatClampNeg w2) fun D11 => (if v4 ≤ 0 then ((fn_X0_numberRows_165 a0 v1 k19 v2 v3 v4 v5 v6 D11)) else ((if v6 < (gI D11 a0 0) then ((fn_X0_numberRows_165 a0 v1 k19 v2 v3 v4 v5 v6 D11)) else ((if ((v1 >>> ((v6 - (gI D11 a0 0)) &&& 31)) &&& (1 : Int32)) = 0 then ((fn_X0_numberRows_165 a0 v1 k19 v2 v3 v4 v5 v6 D11)) else ((fn_X0_numberRows_166 a0 v1 k19 v2 v3 v4 v5 v6 (1 : Int32) D11)))))))
def fn_X0_numberRows_128 (a0 : Nat) (v1 : Int32) (k19 : Int32 → Int32 → Int32 → Int32 → zD → Option zD) (v2 : Int32) (v3 : Int32) (v4 : Int32) (v5 : Int32) (v6 : Int32) (o0 : Nat) (w1 : Int32) (D : zD) : Option zD := (fn_X0_numberRows_132 a0 v1 k19 (v2 + (1 : Int32)) v3 v4 v5 v6 (o0) w1 v2 D)
def fn_X0_numberRows_97 (a0 : Nat) (v1 : Int32) (k19 : Int32 → Int32 → Int32 → Int32 → zD → Option zD) (v2 : Int32) (v3 : Int32) (v4 : Int32) (v5 : Int32) (v6 : Int32) (w0 : Int32) (D : zD) : Option zD := (if w0 = 0 then ((fn_X0_numberRows_128 a0 v1 k19 v2 v3 v4 v5 v6 ((a0 + 5)) v6 D)) else ((if v6 < (1 : Int32) then ((fn_X0_numberRows_128 a0 v1 k19 v2 v3 v4 v5 v6 ((a0 + 5)) v6 D)) else (zck (v6 - (1 : Int32)) 30 <| (fn_X0_numberRows_132 a0 v1 k19 v2 v3 v4 v5 v6 ((a0 + 5)) v6 (gI D (a0 + 5) (v6 - (1 : Int32)).toNatClampNeg) D)))))
def fn_X0_numberRows_96 (a0 : Nat) (v1 : Int32) (k19 : Int32 → Int32 → Int32 → Int32 → zD → Option zD) (v2 : Int32) (v3 : Int32) (v4 : Int32) (v5 : Int32) (v6 : Int32) (D : zD) : Option zD := (fn_X0_numberRows_97 a0 v1 k19 v2 v3 v4 v5 v6 (0 : Int32) D)
def fn_X0_numberRows_54 (a0 : Nat) (v1 : Int32) (k19 : Int32 → Int32 → Int32 → Int32 → zD → Option zD) (v2 : Int32) (v3 : Int32) (v4 : Int32) (v5 : Int32) (v6 : Int32) (w0 : Int32) (D : zD) : Option zD := (if w0 = 0 then ((k19 v2 v3 v4 (v5 + (1 : Int32)) D)) else ((if v6 < 0 then ((k19 v2 v3 v4 (v5 + (1 : Int32)) D)) else ((if v6 < (30 : Int32) then ((if v5 ≤ 0 then ((fn_X0_numberRows_96 a0 v1 k19 v2 v3 v4 v5 v6 D)) else ((if ((v1 >>> ((v6 - (1 : Int32)) &&& 31)) &&& (1 : Int32)) = 0 then ((fn_X0_numberRows_96 a0 v1 k19 v2 v3 v4 v5 v6 D)) else ((fn_X0_numberRows_97 a0 v1 k19 v2 v3 v4 v5 v6 (1 : Int32) D)))))) else ((k19 v2 v3 v4 (v5 + (1 : Int32)) D)))))))
def fn_X0_numberRows_19 (a0 : Nat) (v1 : Int32) (k7 : Int32 → Int32 → Int32 → zD → Option zD) : Nat → Int32 → Int32 → Int32 → Int32 → zD → Option zD
  | 0, _, _, _, _, _ => none
  | n + 1, v2, v3, v4, v5, D => (if (gI D a0 0) ≤ v5 then ((k7 v2 v3 (v4 + (1 : Int32)) D)) else (zlet (((gI D a0 0) * v4) + v5) fun x3 => (if ((v1 >>> (x3 &&& 31)) &&& (1 : Int32)) = 0 then ((fn_X0_numberRows_54 a0 v1 (fn_X0_numberRows_19 a0 v1 k7 n) v2 v3 v4 v5 x3 (0 : Int32) D)) else ((fn_X0_numberRows_54 a0 v1 (fn_X0_numberRows_19 a0 v1 k7 n) v2 v3 v4 v5 x3 (1 : Int32) D)))))
def fn_X0_numberRows_7 (a0 : Nat) (v1 : Int32) : Nat → Int32 → Int32 → Int32 → zD → Option zD
  | 0, _, _, _, _ => none
  | n + 1, v2, v3, v4, D => (if (gI D a0 1) ≤ v4 then ((some D)) else ((fn_X0_numberRows_19 a0 v1 (fn_X0_numberRows_7 a0 v1 n) zFU v2 v3 v4 (0 : Int32) D)))
def fn_X0_numberRows (a0 : Nat) (v1 : Int32) (D : zD) : Option zD := (fn_X0_numberRows_7 a0 v1 zFU (0 : Int32) (0 : Int32) (0 : Int32) D)
theorem s_X0_numberRows_166 {X : zX} {Sh : zSh} {d : Nat} (hst : (zl X).stackTraces = false) (h0 : zSh0 Sh) (hd : 0 ≤ d) {a0 : Nat} {v1 : Int32} (h_a0 : a0 ∈ zI_0) (k19 : Int32 → Int32 → Int32 → Int32 → zD → Option zD) (hk19 : ∀ (v2 : Int32) (v3 : Int32) (v4 : Int32) (v5 : Int32) (D : zD) , Rn X m_X0_numberRows (d + 1) 19 [(0, .ref a0), (1, .int v1), (2, .int v2), (3, .int v3), (4, .int v4), (5, .int v5)] [] (Sh, D) ((oV Sh) (k19 v2 v3 v4 v5 D))) (v2 : Int32) (v3 : Int32) (v4 : Int32) (v5 : Int32) (v6 : Int32) (w0 : Int32) (D : zD)  : Rn X m_X0_numberRows (d + 1) 166 [(0, .ref a0), (1, .int v1), (2, .int v2), (3, .int v3), (4, .int v4), (5, .int v5), (6, .int v6)] [.int w0] (Sh, D) ((oV Sh) (fn_X0_numberRows_166 a0 v1 k19 v2 v3 v4 v5 v6 w0 D)) := by
  rw [fn_X0_numberRows_166]
  refine r_istore (pc := 166) (ls' := [(9, .int w0), (0, .ref a0), (1, .int v1), (2, .int v2), (3, .int v3), (4, .int v4), (5, .int v5), (6, .int v6)]) d_X0_numberRows_166 (Nat.le_of_ble_eq_true rfl) rfl ?_
  refine r_aload_n (pc := 168) 1 d_X0_numberRows_168 rfl rfl ?_
  refine r_getR (pc := 169) g_X0_34 (LK_0 h0 h_a0) rfl (LR_0_9 h0 h_a0) d_X0_numberRows_169 ?_
  refine r_iload (pc := 172) 7 d_X0_numberRows_172 rfl ?_
  refine r_iload (pc := 174) 0 d_X0_numberRows_174 rfl ?_
  refine r_if_eq (f := (oV Sh)) (pc := 176) 194 d_X0_numberRows_176 (by decide) (fun c13 => ?_) (fun c13 => ?_)
  · refine r_iload_n (pc := 194) 4 d_X0_numberRows_194 rfl rfl ?_
    refine r_iinc (pc := 195) ((v3 + (1 : Int32))) 4 (ls' := [(3, .int (v3 + (1 : Int32))), (9, .int w0), (0, .ref a0), (1, .int v1), (2, .int v2), (4, .int v4), (5, .int v5), (6, .int v6)]) d_X0_numberRows_195 rfl rfl (Nat.le_of_ble_eq_true rfl) rfl ?_
    refine r_ck (f := (oV Sh)) rfl (fun hc14 => ?_)
    refine q_iast (pc := 198) (j := v6.toNatClampNeg) (LA_0_9 h0 h_a0) hc14 rfl  d_X0_numberRows_198 ?_
    refine r_letD (f := (oV Sh)) (fun D15 => ?_)
    refine r_iinc (pc := 199) ((v5 + (1 : Int32))) 6 (ls' := [(5, .int (v5 + (1 : Int32))), (3, .int (v3 + (1 : Int32))), (9, .int w0), (0, .ref a0), (1, .int v1), (2, .int v2), (4, .int v4), (6, .int v6)]) d_X0_numberRows_199 rfl rfl (Nat.le_of_ble_eq_true rfl) rfl ?_
    refine r_goto (pc := 202) 19 d_X0_numberRows_202 (by decide) ?_
    refine r_pick [3, 4, 5, 1, 6, 0] (ls' := [(0, .ref a0), (1, .int v1), (2, .int v2), (3, .int (v3 + (1 : Int32))), (4, .int v4), (5, .int (v5 + (1 : Int32)))]) rfl ?_
    exact hk19 v2 (v3 + (1 : Int32)) v4 (v5 + (1 : Int32)) D15 
  · refine r_aload_n (pc := 179) 1 d_X0_numberRows_179 rfl rfl ?_
    refine r_getR (pc := 180) g_X0_34 (LK_0 h0 h_a0) rfl (LR_0_9 h0 h_a0) d_X0_numberRows_180 ?_
    refine r_iload (pc := 183) 7 d_X0_numberRows_183 rfl ?_
    refine r_aload_n (pc := 185) 1 d_X0_numberRows_185 rfl rfl ?_
    refine q_gI (pc := 186) g_X0_9 (LK_0 h0 h_a0) rfl d_X0_numberRows_186 ?_
    refine r_isub (pc := 189) d_X0_numberRows_189 ?_
    refine r_ck (f := (oV Sh)) rfl (fun hc16 => ?_)
    refine q_iald (pc := 190) (j := (v6 - (gI D a0 0)).toNatClampNeg) (LA_0_9 h0 h_a0) hc16 rfl d_X0_numberRows_190 ?_
    refine r_goto (pc := 191) 198 d_X0_numberRows_191 (by decide) ?_
    refine r_ck (f := (oV Sh)) rfl (fun hc17 => ?_)
    refine q_iast (pc := 198) (j := v6.toNatClampNeg) (LA_0_9 h0 h_a0) hc17 rfl  d_X0_numberRows_198 ?_
    refine r_letD (f := (oV Sh)) (fun D18 => ?_)
    refine r_iinc (pc := 199) ((v5 + (1 : Int32))) 6 (ls' := [(5, .int (v5 + (1 : Int32))), (9, .int w0), (0, .ref a0), (1, .int v1), (2, .int v2), (3, .int v3), (4, .int v4), (6, .int v6)]) d_X0_numberRows_199 rfl rfl (Nat.le_of_ble_eq_true rfl) rfl ?_
    refine r_goto (pc := 202) 19 d_X0_numberRows_202 (by decide) ?_
    refine r_pick [2, 3, 4, 5, 6, 0] (ls' := [(0, .ref a0), (1, .int v1), (2, .int v2), (3, .int v3), (4, .int v4), (5, .int (v5 + (1 : Int32)))]) rfl ?_
    exact hk19 v2 v3 v4 (v5 + (1 : Int32)) D18 
theorem s_X0_numberRows_165 {X : zX} {Sh : zSh} {d : Nat} (hst : (zl X).stackTraces = false) (h0 : zSh0 Sh) (hd : 0 ≤ d) {a0 : Nat} {v1 : Int32} (h_a0 : a0 ∈ zI_0) (k19 : Int32 → Int32 → Int32 → Int32 → zD → Option zD) (hk19 : ∀ (v2 : Int32) (v3 : Int32) (v4 : Int32) (v5 : Int32) (D : zD) , Rn X m_X0_numberRows (d + 1) 19 [(0, .ref a0), (1, .int v1), (2, .int v2), (3, .int v3), (4, .int v4), (5, .int v5)] [] (Sh, D) ((oV Sh) (k19 v2 v3 v4 v5 D))) (v2 : Int32) (v3 : Int32) (v4 : Int32) (v5 : Int32) (v6 : Int32) (D : zD)  : Rn X m_X0_numberRows (d + 1) 165 [(0, .ref a0), (1, .int v1), (2, .int v2), (3, .int v3), (4, .int v4), (5, .int v5), (6, .int v6)] [] (Sh, D) ((oV Sh) (fn_X0_numberRows_165 a0 v1 k19 v2 v3 v4 v5 v6 D)) := by
  rw [fn_X0_numberRows_165]
  refine r_iconst (pc := 165) (0 : Int32) d_X0_numberRows_165 rfl ?_
  refine r_pick [0, 1, 2, 3, 4, 5, 6] (ls' := [(0, .ref a0), (1, .int v1), (2, .int v2), (3, .int v3), (4, .int v4), (5, .int v5), (6, .int v6)]) rfl ?_
  exact s_X0_numberRows_166 hst h0 hd h_a0 k19 hk19 v2 v3 v4 v5 v6 (0 : Int32) D
theorem s_X0_numberRows_132 {X : zX} {Sh : zSh} {d : Nat} (hst : (zl X).stackTraces = false) (h0 : zSh0 Sh) (hd : 0 ≤ d) {a0 : Nat} {v1 : Int32} (h_a0 : a0 ∈ zI_0) (k19 : Int32 → Int32 → Int32 → Int32 → zD → Option zD) (hk19 : ∀ (v2 : Int32) (v3 : Int32) (v4 : Int32) (v5 : Int32) (D : zD) , Rn X m_X0_numberRows (d + 1) 19 [(0, .ref a0), (1, .int v1), (2, .int v2), (3, .int v3), (4, .int v4), (5, .int v5)] [] (Sh, D) ((oV Sh) (k19 v2 v3 v4 v5 D))) (v2 : Int32) (v3 : Int32) (v4 : Int32) (v5 : Int32) (v6 : Int32) (o0 : Nat) (w1 : Int32) (w2 : Int32) (D : zD) (h_o0 : Sh.1[o0]? = some (0, 30)) : Rn X m_X0_numberRows (d + 1) 132 [(0, .ref a0), (1, .int v1), (2, .int v2), (3, .int v3), (4, .int v4), (5, .int v5), (6, .int v6)] [.int w2, .int w1, .ref o0] (Sh, D) ((oV Sh) (fn_X0_numberRows_132 a0 v1 k19 v2 v3 v4 v5 v6 o0 w1 w2 D)) := by
  rw [fn_X0_numberRows_132]
  refine r_ck (f := (oV Sh)) rfl (fun hc10 => ?_)
  refine q_iast (pc := 132) (j := w1.toNatClampNeg) h_o0 hc10 rfl  d_X0_numberRows_132 ?_
  refine r_letD (f := (oV Sh)) (fun D11 => ?_)
  refine r_iload (pc := 133) 4 d_X0_numberRows_133 rfl ?_
  refine r_if_le (f := (oV Sh)) (pc := 135) 165 d_X0_numberRows_135 (by decide) (fun c12 => ?_) (fun c12 => ?_)
  · refine r_pick [0, 1, 2, 3, 4, 5, 6] (ls' := [(0, .ref a0), (1, .int v1), (2, .int v2), (3, .int v3), (4, .int v4), (5, .int v5), (6, .int v6)]) rfl ?_
    exact s_X0_numberRows_165 hst h0 hd h_a0 k19 hk19 v2 v3 v4 v5 v6 D11
  · refine r_iload (pc := 138) 6 d_X0_numberRows_138 rfl ?_
    refine r_aload_n (pc := 140) 0 d_X0_numberRows_140 rfl rfl ?_
    refine q_gI (pc := 141) g_X0_9 (LK_0 h0 h_a0) rfl d_X0_numberRows_141 ?_
    refine r_icmp_lt (f := (oV Sh)) (pc := 144) 165 d_X0_numberRows_144 (by decide) (fun c19 => ?_) (fun c19 => ?_)
    · refine r_pick [0, 1, 2, 3, 4, 5, 6] (ls' := [(0, .ref a0), (1, .int v1), (2, .int v2), (3, .int v3), (4, .int v4), (5, .int v5), (6, .int v6)]) rfl ?_
      exact s_X0_numberRows_165 hst h0 hd h_a0 k19 hk19 v2 v3 v4 v5 v6 D11
    · refine r_iload_n (pc := 147) 1 d_X0_numberRows_147 rfl rfl ?_
      refine r_iload (pc := 148) 6 d_X0_numberRows_148 rfl ?_
      refine r_aload_n (pc := 150) 0 d_X0_numberRows_150 rfl rfl ?_
      refine q_gI (pc := 151) g_X0_9 (LK_0 h0 h_a0) rfl d_X0_numberRows_151 ?_
      refine r_isub (pc := 154) d_X0_numberRows_154 ?_
      refine r_ishr (pc := 155) d_X0_numberRows_155 ?_
      refine r_iconst (pc := 156) (1 : Int32) d_X0_numberRows_156 rfl ?_
      refine r_iand (pc := 157) d_X0_numberRows_157 ?_
      refine r_if_eq (f := (oV Sh)) (pc := 158) 165 d_X0_numberRows_158 (by decide) (fun c20 => ?_) (fun c20 => ?_)
      · refine r_pick [0, 1, 2, 3, 4, 5, 6] (ls' := [(0, .ref a0), (1, .int v1), (2, .int v2), (3, .int v3), (4, .int v4), (5, .int v5), (6, .int v6)]) rfl ?_
        exact s_X0_numberRows_165 hst h0 hd h_a0 k19 hk19 v2 v3 v4 v5 v6 D11
      · refine r_iconst (pc := 161) (1 : Int32) d_X0_numberRows_161 rfl ?_
        refine r_goto (pc := 162) 166 d_X0_numberRows_162 (by decide) ?_
        refine r_pick [0, 1, 2, 3, 4, 5, 6] (ls' := [(0, .ref a0), (1, .int v1), (2, .int v2), (3, .int v3), (4, .int v4), (5, .int v5), (6, .int v6)]) rfl ?_
        exact s_X0_numberRows_166 hst h0 hd h_a0 k19 hk19 v2 v3 v4 v5 v6 (1 : Int32) D11
theorem s_X0_numberRows_128 {X : zX} {Sh : zSh} {d : Nat} (hst : (zl X).stackTraces = false) (h0 : zSh0 Sh) (hd : 0 ≤ d) {a0 : Nat} {v1 : Int32} (h_a0 : a0 ∈ zI_0) (k19 : Int32 → Int32 → Int32 → Int32 → zD → Option zD) (hk19 : ∀ (v2 : Int32) (v3 : Int32) (v4 : Int32) (v5 : Int32) (D : zD) , Rn X m_X0_numberRows (d + 1) 19 [(0, .ref a0), (1, .int v1), (2, .int v2), (3, .int v3), (4, .int v4), (5, .int v5)] [] (Sh, D) ((oV Sh) (k19 v2 v3 v4 v5 D))) (v2 : Int32) (v3 : Int32) (v4 : Int32) (v5 : Int32) (v6 : Int32) (o0 : Nat) (w1 : Int32) (D : zD) (h_o0 : Sh.1[o0]? = some (0, 30)) : Rn X m_X0_numberRows (d + 1) 128 [(0, .ref a0), (1, .int v1), (2, .int v2), (3, .int v3), (4, .int v4), (5, .int v5), (6, .int v6)] [.int w1, .ref o0] (Sh, D) ((oV Sh) (fn_X0_numberRows_128 a0 v1 k19 v2 v3 v4 v5 v6 o0 w1 D)) := by
  rw [fn_X0_numberRows_128]
  refine r_iload_n (pc := 128) 2 d_X0_numberRows_128 rfl rfl ?_
  refine r_iinc (pc := 129) ((v2 + (1 : Int32))) 2 (ls' := [(2, .int (v2 + (1 : Int32))), (0, .ref a0), (1, .int v1), (3, .int v3), (4, .int v4), (5, .int v5), (6, .int v6)]) d_X0_numberRows_129 rfl rfl (Nat.le_of_ble_eq_true rfl) rfl ?_
  refine r_pick [1, 2, 0, 3, 4, 5, 6] (ls' := [(0, .ref a0), (1, .int v1), (2, .int (v2 + (1 : Int32))), (3, .int v3), (4, .int v4), (5, .int v5), (6, .int v6)]) rfl ?_
  exact s_X0_numberRows_132 hst h0 hd h_a0 k19 hk19 (v2 + (1 : Int32)) v3 v4 v5 v6 (o0) w1 v2 D h_o0
theorem s_X0_numberRows_97 {X : zX} {Sh : zSh} {d : Nat} (hst : (zl X).stackTraces = false) (h0 : zSh0 Sh) (hd : 0 ≤ d) {a0 : Nat} {v1 : Int32} (h_a0 : a0 ∈ zI_0) (k19 : Int32 → Int32 → Int32 → Int32 → zD → Option zD) (hk19 : ∀ (v2 : Int32) (v3 : Int32) (v4 : Int32) (v5 : Int32) (D : zD) , Rn X m_X0_numberRows (d + 1) 19 [(0, .ref a0), (1, .int v1), (2, .int v2), (3, .int v3), (4, .int v4), (5, .int v5)] [] (Sh, D) ((oV Sh) (k19 v2 v3 v4 v5 D))) (v2 : Int32) (v3 : Int32) (v4 : Int32) (v5 : Int32) (v6 : Int32) (w0 : Int32) (D : zD)  : Rn X m_X0_numberRows (d + 1) 97 [(0, .ref a0), (1, .int v1), (2, .int v2), (3, .int v3), (4, .int v4), (5, .int v5), (6, .int v6)] [.int w0] (Sh, D) ((oV Sh) (fn_X0_numberRows_97 a0 v1 k19 v2 v3 v4 v5 v6 w0 D)) := by
  rw [fn_X0_numberRows_97]
  refine r_istore (pc := 97) (ls' := [(8, .int w0), (0, .ref a0), (1, .int v1), (2, .int v2), (3, .int v3), (4, .int v4), (5, .int v5), (6, .int v6)]) d_X0_numberRows_97 (Nat.le_of_ble_eq_true rfl) rfl ?_
  refine r_aload_n (pc := 99) 1 d_X0_numberRows_99 rfl rfl ?_
  refine r_getR (pc := 100) g_X0_31 (LK_0 h0 h_a0) rfl (LR_0_8 h0 h_a0) d_X0_numberRows_100 ?_
  refine r_iload (pc := 103) 7 d_X0_numberRows_103 rfl ?_
  refine r_iload (pc := 105) 0 d_X0_numberRows_105 rfl ?_
  refine r_if_eq (f := (oV Sh)) (pc := 107) 128 d_X0_numberRows_107 (by decide) (fun c9 => ?_) (fun c9 => ?_)
  · refine r_pick [1, 2, 3, 4, 5, 6, 7] (ls' := [(0, .ref a0), (1, .int v1), (2, .int v2), (3, .int v3), (4, .int v4), (5, .int v5), (6, .int v6)]) rfl ?_
    exact s_X0_numberRows_128 hst h0 hd h_a0 k19 hk19 v2 v3 v4 v5 v6 ((a0 + 5)) v6 D (LA_0_8 h0 h_a0)
  · refine r_iload (pc := 110) 7 d_X0_numberRows_110 rfl ?_
    refine r_iconst (pc := 112) (1 : Int32) d_X0_numberRows_112 rfl ?_
    refine r_icmp_lt (f := (oV Sh)) (pc := 113) 128 d_X0_numberRows_113 (by decide) (fun c21 => ?_) (fun c21 => ?_)
    · refine r_pick [1, 2, 3, 4, 5, 6, 7] (ls' := [(0, .ref a0), (1, .int v1), (2, .int v2), (3, .int v3), (4, .int v4), (5, .int v5), (6, .int v6)]) rfl ?_
      exact s_X0_numberRows_128 hst h0 hd h_a0 k19 hk19 v2 v3 v4 v5 v6 ((a0 + 5)) v6 D (LA_0_8 h0 h_a0)
    · refine r_aload_n (pc := 116) 1 d_X0_numberRows_116 rfl rfl ?_
      refine r_getR (pc := 117) g_X0_31 (LK_0 h0 h_a0) rfl (LR_0_8 h0 h_a0) d_X0_numberRows_117 ?_
      refine r_iload (pc := 120) 7 d_X0_numberRows_120 rfl ?_
      refine r_iconst (pc := 122) (1 : Int32) d_X0_numberRows_122 rfl ?_
      refine r_isub (pc := 123) d_X0_numberRows_123 ?_
      refine r_ck (f := (oV Sh)) rfl (fun hc22 => ?_)
      refine q_iald (pc := 124) (j := (v6 - (1 : Int32)).toNatClampNeg) (LA_0_8 h0 h_a0) hc22 rfl d_X0_numberRows_124 ?_
      refine r_goto (pc := 125) 132 d_X0_numberRows_125 (by decide) ?_
      refine r_pick [1, 2, 3, 4, 5, 6, 7] (ls' := [(0, .ref a0), (1, .int v1), (2, .int v2), (3, .int v3), (4, .int v4), (5, .int v5), (6, .int v6)]) rfl ?_
      exact s_X0_numberRows_132 hst h0 hd h_a0 k19 hk19 v2 v3 v4 v5 v6 ((a0 + 5)) v6 (gI D (a0 + 5) (v6 - (1 : Int32)).toNatClampNeg) D (LA_0_8 h0 h_a0)
theorem s_X0_numberRows_96 {X : zX} {Sh : zSh} {d : Nat} (hst : (zl X).stackTraces = false) (h0 : zSh0 Sh) (hd : 0 ≤ d) {a0 : Nat} {v1 : Int32} (h_a0 : a0 ∈ zI_0) (k19 : Int32 → Int32 → Int32 → Int32 → zD → Option zD) (hk19 : ∀ (v2 : Int32) (v3 : Int32) (v4 : Int32) (v5 : Int32) (D : zD) , Rn X m_X0_numberRows (d + 1) 19 [(0, .ref a0), (1, .int v1), (2, .int v2), (3, .int v3), (4, .int v4), (5, .int v5)] [] (Sh, D) ((oV Sh) (k19 v2 v3 v4 v5 D))) (v2 : Int32) (v3 : Int32) (v4 : Int32) (v5 : Int32) (v6 : Int32) (D : zD)  : Rn X m_X0_numberRows (d + 1) 96 [(0, .ref a0), (1, .int v1), (2, .int v2), (3, .int v3), (4, .int v4), (5, .int v5), (6, .int v6)] [] (Sh, D) ((oV Sh) (fn_X0_numberRows_96 a0 v1 k19 v2 v3 v4 v5 v6 D)) := by
  rw [fn_X0_numberRows_96]
  refine r_iconst (pc := 96) (0 : Int32) d_X0_numberRows_96 rfl ?_
  refine r_pick [0, 1, 2, 3, 4, 5, 6] (ls' := [(0, .ref a0), (1, .int v1), (2, .int v2), (3, .int v3), (4, .int v4), (5, .int v5), (6, .int v6)]) rfl ?_
  exact s_X0_numberRows_97 hst h0 hd h_a0 k19 hk19 v2 v3 v4 v5 v6 (0 : Int32) D
theorem s_X0_numberRows_54 {X : zX} {Sh : zSh} {d : Nat} (hst : (zl X).stackTraces = false) (h0 : zSh0 Sh) (hd : 0 ≤ d) {a0 : Nat} {v1 : Int32} (h_a0 : a0 ∈ zI_0) (k19 : Int32 → Int32 → Int32 → Int32 → zD → Option zD) (hk19 : ∀ (v2 : Int32) (v3 : Int32) (v4 : Int32) (v5 : Int32) (D : zD) , Rn X m_X0_numberRows (d + 1) 19 [(0, .ref a0), (1, .int v1), (2, .int v2), (3, .int v3), (4, .int v4), (5, .int v5)] [] (Sh, D) ((oV Sh) (k19 v2 v3 v4 v5 D))) (v2 : Int32) (v3 : Int32) (v4 : Int32) (v5 : Int32) (v6 : Int32) (w0 : Int32) (D : zD)  : Rn X m_X0_numberRows (d + 1) 54 [(0, .ref a0), (1, .int v1), (2, .int v2), (3, .int v3), (4, .int v4), (5, .int v5), (6, .int v6)] [.int w0] (Sh, D) ((oV Sh) (fn_X0_numberRows_54 a0 v1 k19 v2 v3 v4 v5 v6 w0 D)) := by
  rw [fn_X0_numberRows_54]
  refine r_istore (pc := 54) (ls' := [(7, .int w0), (0, .ref a0), (1, .int v1), (2, .int v2), (3, .int v3), (4, .int v4), (5, .int v5), (6, .int v6)]) d_X0_numberRows_54 (Nat.le_of_ble_eq_true rfl) rfl ?_
  refine r_iload (pc := 56) 0 d_X0_numberRows_56 rfl ?_
  refine r_if_eq (f := (oV Sh)) (pc := 58) 199 d_X0_numberRows_58 (by decide) (fun c5 => ?_) (fun c5 => ?_)
  · refine r_iinc (pc := 199) ((v5 + (1 : Int32))) 6 (ls' := [(5, .int (v5 + (1 : Int32))), (7, .int w0), (0, .ref a0), (1, .int v1), (2, .int v2), (3, .int v3), (4, .int v4), (6, .int v6)]) d_X0_numberRows_199 rfl rfl (Nat.le_of_ble_eq_true rfl) rfl ?_
    refine r_goto (pc := 202) 19 d_X0_numberRows_202 (by decide) ?_
    refine r_pick [2, 3, 4, 5, 6, 0] (ls' := [(0, .ref a0), (1, .int v1), (2, .int v2), (3, .int v3), (4, .int v4), (5, .int (v5 + (1 : Int32)))]) rfl ?_
    exact hk19 v2 v3 v4 (v5 + (1 : Int32)) D 
  · refine r_iload (pc := 61) 7 d_X0_numberRows_61 rfl ?_
    refine r_if_lt (f := (oV Sh)) (pc := 63) 199 d_X0_numberRows_63 (by decide) (fun c6 => ?_) (fun c6 => ?_)
    · refine r_iinc (pc := 199) ((v5 + (1 : Int32))) 6 (ls' := [(5, .int (v5 + (1 : Int32))), (7, .int w0), (0, .ref a0), (1, .int v1), (2, .int v2), (3, .int v3), (4, .int v4), (6, .int v6)]) d_X0_numberRows_199 rfl rfl (Nat.le_of_ble_eq_true rfl) rfl ?_
      refine r_goto (pc := 202) 19 d_X0_numberRows_202 (by decide) ?_
      refine r_pick [2, 3, 4, 5, 6, 0] (ls' := [(0, .ref a0), (1, .int v1), (2, .int v2), (3, .int v3), (4, .int v4), (5, .int (v5 + (1 : Int32)))]) rfl ?_
      exact hk19 v2 v3 v4 (v5 + (1 : Int32)) D 
    · refine r_iload (pc := 66) 7 d_X0_numberRows_66 rfl ?_
      refine r_bipush (pc := 68) (30 : Int32) d_X0_numberRows_68 rfl ?_
      refine r_icmp_lt (f := (oV Sh)) (pc := 70) 76 d_X0_numberRows_70 (by decide) (fun c7 => ?_) (fun c7 => ?_)
      · refine r_iload (pc := 76) 6 d_X0_numberRows_76 rfl ?_
        refine r_if_le (f := (oV Sh)) (pc := 78) 96 d_X0_numberRows_78 (by decide) (fun c8 => ?_) (fun c8 => ?_)
        · refine r_pick [1, 2, 3, 4, 5, 6, 7] (ls' := [(0, .ref a0), (1, .int v1), (2, .int v2), (3, .int v3), (4, .int v4), (5, .int v5), (6, .int v6)]) rfl ?_
          exact s_X0_numberRows_96 hst h0 hd h_a0 k19 hk19 v2 v3 v4 v5 v6 D
        · refine r_iload_n (pc := 81) 2 d_X0_numberRows_81 rfl rfl ?_
          refine r_iload (pc := 82) 7 d_X0_numberRows_82 rfl ?_
          refine r_iconst (pc := 84) (1 : Int32) d_X0_numberRows_84 rfl ?_
          refine r_isub (pc := 85) d_X0_numberRows_85 ?_
          refine r_ishr (pc := 86) d_X0_numberRows_86 ?_
          refine r_iconst (pc := 87) (1 : Int32) d_X0_numberRows_87 rfl ?_
          refine r_iand (pc := 88) d_X0_numberRows_88 ?_
          refine r_if_eq (f := (oV Sh)) (pc := 89) 96 d_X0_numberRows_89 (by decide) (fun c23 => ?_) (fun c23 => ?_)
          · refine r_pick [1, 2, 3, 4, 5, 6, 7] (ls' := [(0, .ref a0), (1, .int v1), (2, .int v2), (3, .int v3), (4, .int v4), (5, .int v5), (6, .int v6)]) rfl ?_
            exact s_X0_numberRows_96 hst h0 hd h_a0 k19 hk19 v2 v3 v4 v5 v6 D
          · refine r_iconst (pc := 92) (1 : Int32) d_X0_numberRows_92 rfl ?_
            refine r_goto (pc := 93) 97 d_X0_numberRows_93 (by decide) ?_
            refine r_pick [1, 2, 3, 4, 5, 6, 7] (ls' := [(0, .ref a0), (1, .int v1), (2, .int v2), (3, .int v3), (4, .int v4), (5, .int v5), (6, .int v6)]) rfl ?_
            exact s_X0_numberRows_97 hst h0 hd h_a0 k19 hk19 v2 v3 v4 v5 v6 (1 : Int32) D
      · refine r_goto (pc := 73) 199 d_X0_numberRows_73 (by decide) ?_
        refine r_iinc (pc := 199) ((v5 + (1 : Int32))) 6 (ls' := [(5, .int (v5 + (1 : Int32))), (7, .int w0), (0, .ref a0), (1, .int v1), (2, .int v2), (3, .int v3), (4, .int v4), (6, .int v6)]) d_X0_numberRows_199 rfl rfl (Nat.le_of_ble_eq_true rfl) rfl ?_
        refine r_goto (pc := 202) 19 d_X0_numberRows_202 (by decide) ?_
        refine r_pick [2, 3, 4, 5, 6, 0] (ls' := [(0, .ref a0), (1, .int v1), (2, .int v2), (3, .int v3), (4, .int v4), (5, .int (v5 + (1 : Int32)))]) rfl ?_
        exact hk19 v2 v3 v4 (v5 + (1 : Int32)) D 
theorem s_X0_numberRows_19 {X : zX} {Sh : zSh} {d : Nat} (hst : (zl X).stackTraces = false) (h0 : zSh0 Sh) (hd : 0 ≤ d) {a0 : Nat} {v1 : Int32} (h_a0 : a0 ∈ zI_0) (k7 : Int32 → Int32 → Int32 → zD → Option zD) (hk7 : ∀ (v2 : Int32) (v3 : Int32) (v4 : Int32) (D : zD) , Rn X m_X0_numberRows (d + 1) 7 [(0, .ref a0), (1, .int v1), (2, .int v2), (3, .int v3), (4, .int v4)] [] (Sh, D) ((oV Sh) (k7 v2 v3 v4 D))) : ∀ (n : Nat) (v2 : Int32) (v3 : Int32) (v4 : Int32) (v5 : Int32) (D : zD) , Rn X m_X0_numberRows (d + 1) 19 [(0, .ref a0), (1, .int v1), (2, .int v2), (3, .int v3), (4, .int v4), (5, .int v5)] [] (Sh, D) ((oV Sh) (fn_X0_numberRows_19 a0 v1 k7 n v2 v3 v4 v5 D)) := by
  intro n
  induction n with
  | zero => intro v2 v3 v4 v5 D; exact Rn_none rfl
  | succ n hk19 =>
    intro v2 v3 v4 v5 D
    rw [fn_X0_numberRows_19]
    refine r_iload (pc := 19) 5 d_X0_numberRows_19 rfl ?_
    refine r_aload_n (pc := 21) 0 d_X0_numberRows_21 rfl rfl ?_
    refine q_gI (pc := 22) g_X0_9 (LK_0 h0 h_a0) rfl d_X0_numberRows_22 ?_
    refine r_icmp_ge (f := (oV Sh)) (pc := 25) 205 d_X0_numberRows_25 (by decide) (fun c2 => ?_) (fun c2 => ?_)
    · refine r_iinc (pc := 205) ((v4 + (1 : Int32))) 4 (ls' := [(4, .int (v4 + (1 : Int32))), (0, .ref a0), (1, .int v1), (2, .int v2), (3, .int v3), (5, .int v5)]) d_X0_numberRows_205 rfl rfl (Nat.le_of_ble_eq_true rfl) rfl ?_
      refine r_goto (pc := 208) 7 d_X0_numberRows_208 (by decide) ?_
      refine r_pick [1, 2, 3, 4, 0] (ls' := [(0, .ref a0), (1, .int v1), (2, .int v2), (3, .int v3), (4, .int (v4 + (1 : Int32)))]) rfl ?_
      exact hk7 v2 v3 (v4 + (1 : Int32)) D 
    · refine r_aload_n (pc := 28) 0 d_X0_numberRows_28 rfl rfl ?_
      refine q_gI (pc := 29) g_X0_9 (LK_0 h0 h_a0) rfl d_X0_numberRows_29 ?_
      refine r_iload (pc := 32) 4 d_X0_numberRows_32 rfl ?_
      refine r_imul (pc := 34) d_X0_numberRows_34 ?_
      refine r_iload (pc := 35) 5 d_X0_numberRows_35 rfl ?_
      refine r_iadd (pc := 37) d_X0_numberRows_37 ?_
      refine r_leti (f := (oV Sh)) (fun x3 => ?_)
      refine r_istore (pc := 38) (ls' := [(6, .int x3), (0, .ref a0), (1, .int v1), (2, .int v2), (3, .int v3), (4, .int v4), (5, .int v5)]) d_X0_numberRows_38 (Nat.le_of_ble_eq_true rfl) rfl ?_
      refine r_iload_n (pc := 40) 2 d_X0_numberRows_40 rfl rfl ?_
      refine r_iload (pc := 41) 0 d_X0_numberRows_41 rfl ?_
      refine r_ishr (pc := 43) d_X0_numberRows_43 ?_
      refine r_iconst (pc := 44) (1 : Int32) d_X0_numberRows_44 rfl ?_
      refine r_iand (pc := 45) d_X0_numberRows_45 ?_
      refine r_if_eq (f := (oV Sh)) (pc := 46) 53 d_X0_numberRows_46 (by decide) (fun c4 => ?_) (fun c4 => ?_)
      · refine r_iconst (pc := 53) (0 : Int32) d_X0_numberRows_53 rfl ?_
        refine r_pick [1, 2, 3, 4, 5, 6, 0] (ls' := [(0, .ref a0), (1, .int v1), (2, .int v2), (3, .int v3), (4, .int v4), (5, .int v5), (6, .int x3)]) rfl ?_
        exact s_X0_numberRows_54 hst h0 hd h_a0 (fn_X0_numberRows_19 a0 v1 k7 n) hk19 v2 v3 v4 v5 x3 (0 : Int32) D
      · refine r_iconst (pc := 49) (1 : Int32) d_X0_numberRows_49 rfl ?_
        refine r_goto (pc := 50) 54 d_X0_numberRows_50 (by decide) ?_
        refine r_pick [1, 2, 3, 4, 5, 6, 0] (ls' := [(0, .ref a0), (1, .int v1), (2, .int v2), (3, .int v3), (4, .int v4), (5, .int v5), (6, .int x3)]) rfl ?_
        exact s_X0_numberRows_54 hst h0 hd h_a0 (fn_X0_numberRows_19 a0 v1 k7 n) hk19 v2 v3 v4 v5 x3 (1 : Int32) D
theorem s_X0_numberRows_7 {X : zX} {Sh : zSh} {d : Nat} (hst : (zl X).stackTraces = false) (h0 : zSh0 Sh) (hd : 0 ≤ d) {a0 : Nat} {v1 : Int32} (h_a0 : a0 ∈ zI_0) : ∀ (n : Nat) (v2 : Int32) (v3 : Int32) (v4 : Int32) (D : zD) , Rn X m_X0_numberRows (d + 1) 7 [(0, .ref a0), (1, .int v1), (2, .int v2), (3, .int v3), (4, .int v4)] [] (Sh, D) ((oV Sh) (fn_X0_numberRows_7 a0 v1 n v2 v3 v4 D)) := by
  intro n
  induction n with
  | zero => intro v2 v3 v4 D; exact Rn_none rfl
  | succ n hk7 =>
    intro v2 v3 v4 D
    rw [fn_X0_numberRows_7]
    refine r_iload (pc := 7) 4 d_X0_numberRows_7 rfl ?_
    refine r_aload_n (pc := 9) 0 d_X0_numberRows_9 rfl rfl ?_
    refine q_gI (pc := 10) g_X0_15 (LK_0 h0 h_a0) rfl d_X0_numberRows_10 ?_
    refine r_icmp_ge (f := (oV Sh)) (pc := 13) 211 d_X0_numberRows_13 (by decide) (fun c1 => ?_) (fun c1 => ?_)
    · exact r_vret (pc := 211) rfl d_X0_numberRows_211
    · refine r_iconst (pc := 16) (0 : Int32) d_X0_numberRows_16 rfl ?_
      refine r_istore (pc := 17) (ls' := [(5, .int (0 : Int32)), (0, .ref a0), (1, .int v1), (2, .int v2), (3, .int v3), (4, .int v4)]) d_X0_numberRows_17 (Nat.le_of_ble_eq_true rfl) rfl ?_
      refine r_pick [1, 2, 3, 4, 5, 0] (ls' := [(0, .ref a0), (1, .int v1), (2, .int v2), (3, .int v3), (4, .int v4), (5, .int (0 : Int32))]) rfl ?_
      exact s_X0_numberRows_19 hst h0 hd h_a0 (fn_X0_numberRows_7 a0 v1 n) hk7 zFU  v2 v3 v4 (0 : Int32) D
theorem s_X0_numberRows {X : zX} {Sh : zSh} {d : Nat} (hst : (zl X).stackTraces = false) (h0 : zSh0 Sh) (hd : 1 ≤ d) {a0 : Nat} {v1 : Int32} (h_a0 : a0 ∈ zI_0) {D : zD} : Sd X m_X0_numberRows d [.ref a0, .int v1] (Sh, D) ((oV Sh) (fn_X0_numberRows a0 v1 D)) := by
  obtain ⟨d, rfl⟩ : ∃ e, d = e + 1 := ⟨d - 1, by omega⟩
  replace hd : 0 ≤ d := by omega
  refine z_body ck_X0_numberRows rfl (Nat.le_of_ble_eq_true rfl) rfl hst ?_
  rw [fn_X0_numberRows]
  show Rn X m_X0_numberRows (d + 1) 0 [(0, .ref a0), (1, .int v1)] [] (Sh, D) _
  refine r_iconst (pc := 0) (0 : Int32) d_X0_numberRows_0 rfl ?_
  refine r_istore_n (pc := 1) (ls' := [(2, .int (0 : Int32)), (0, .ref a0), (1, .int v1)]) d_X0_numberRows_1 rfl (Nat.le_of_ble_eq_true rfl) rfl ?_
  refine r_iconst (pc := 2) (0 : Int32) d_X0_numberRows_2 rfl ?_
  refine r_istore_n (pc := 3) (ls' := [(3, .int (0 : Int32)), (2, .int (0 : Int32)), (0, .ref a0), (1, .int v1)]) d_X0_numberRows_3 rfl (Nat.le_of_ble_eq_true rfl) rfl ?_
  refine r_iconst (pc := 4) (0 : Int32) d_X0_numberRows_4 rfl ?_
  refine r_istore (pc := 5) (ls' := [(4, .int (0 : Int32)), (3, .int (0 : Int32)), (2, .int (0 : Int32)), (0, .ref a0), (1, .int v1)]) d_X0_numberRows_5 (Nat.le_of_ble_eq_true rfl) rfl ?_
  refine r_pick [3, 4, 2, 1, 0] (ls' := [(0, .ref a0), (1, .int v1), (2, .int (0 : Int32)), (3, .int (0 : Int32)), (4, .int (0 : Int32))]) rfl ?_
  exact s_X0_numberRows_7 hst h0 hd h_a0 zFU  (0 : Int32) (0 : Int32) (0 : Int32) D
/-! CoveredSigns$Alphabet.fewestRows -/
theorem d_X0_fewestRows_0 : decode (yB m_X0_fewestRows) 0 = .ok (.aload_n 0, 1) := by decide +kernel
theorem d_X0_fewestRows_1 : decode (yB m_X0_fewestRows) 1 = .ok (.iload_n 1, 1) := by decide +kernel
theorem d_X0_fewestRows_2 : decode (yB m_X0_fewestRows) 2 = .ok (.invokevirtual 84, 3) := by decide +kernel
theorem d_X0_fewestRows_5 : decode (yB m_X0_fewestRows) 5 = .ok (.aload_n 0, 1) := by decide +kernel
theorem d_X0_fewestRows_6 : decode (yB m_X0_fewestRows) 6 = .ok (.getfield 37, 3) := by decide +kernel
theorem d_X0_fewestRows_9 : decode (yB m_X0_fewestRows) 9 = .ok (.iconst (-1), 1) := by decide +kernel
theorem d_X0_fewestRows_10 : decode (yB m_X0_fewestRows) 10 = .ok (.invokestatic 88, 3) := by decide +kernel
theorem d_X0_fewestRows_13 : decode (yB m_X0_fewestRows) 13 = .ok (.iconst 0, 1) := by decide +kernel
theorem d_X0_fewestRows_14 : decode (yB m_X0_fewestRows) 14 = .ok (.istore_n 2, 1) := by decide +kernel
theorem d_X0_fewestRows_15 : decode (yB m_X0_fewestRows) 15 = .ok (.iconst 0, 1) := by decide +kernel
theorem d_X0_fewestRows_16 : decode (yB m_X0_fewestRows) 16 = .ok (.istore_n 3, 1) := by decide +kernel
theorem d_X0_fewestRows_17 : decode (yB m_X0_fewestRows) 17 = .ok (.iload_n 3, 1) := by decide +kernel
theorem d_X0_fewestRows_18 : decode (yB m_X0_fewestRows) 18 = .ok (.bipush 30, 2) := by decide +kernel
theorem d_X0_fewestRows_20 : decode (yB m_X0_fewestRows) 20 = .ok (.if_icmp .ge 27, 3) := by decide +kernel
theorem d_X0_fewestRows_23 : decode (yB m_X0_fewestRows) 23 = .ok (.aload_n 0, 1) := by decide +kernel
theorem d_X0_fewestRows_24 : decode (yB m_X0_fewestRows) 24 = .ok (.iconst 0, 1) := by decide +kernel
theorem d_X0_fewestRows_25 : decode (yB m_X0_fewestRows) 25 = .ok (.putfield 94, 3) := by decide +kernel
theorem d_X0_fewestRows_28 : decode (yB m_X0_fewestRows) 28 = .ok (.aload_n 0, 1) := by decide +kernel
theorem d_X0_fewestRows_29 : decode (yB m_X0_fewestRows) 29 = .ok (.iload_n 1, 1) := by decide +kernel
theorem d_X0_fewestRows_30 : decode (yB m_X0_fewestRows) 30 = .ok (.iload_n 3, 1) := by decide +kernel
theorem d_X0_fewestRows_31 : decode (yB m_X0_fewestRows) 31 = .ok (.iconst 0, 1) := by decide +kernel
theorem d_X0_fewestRows_32 : decode (yB m_X0_fewestRows) 32 = .ok (.invokevirtual 97, 3) := by decide +kernel
theorem d_X0_fewestRows_35 : decode (yB m_X0_fewestRows) 35 = .ok (.ifCond .eq 6, 3) := by decide +kernel
theorem d_X0_fewestRows_38 : decode (yB m_X0_fewestRows) 38 = .ok (.iinc 2 1, 3) := by decide +kernel
theorem d_X0_fewestRows_41 : decode (yB m_X0_fewestRows) 41 = .ok (.iinc 3 1, 3) := by decide +kernel
theorem d_X0_fewestRows_44 : decode (yB m_X0_fewestRows) 44 = .ok (.goto (-27), 3) := by decide +kernel
theorem d_X0_fewestRows_47 : decode (yB m_X0_fewestRows) 47 = .ok (.iload_n 2, 1) := by decide +kernel
theorem d_X0_fewestRows_48 : decode (yB m_X0_fewestRows) 48 = .ok (.ireturn, 1) := by decide +kernel
def fn_X0_fewestRows_17 (a0 : Nat) (v1 : Int32) : Nat → Int32 → Int32 → zD → Option (Int32 × zD)
  | 0, _, _, _ => none
  | n + 1, v2, v3, D => (if (30 : Int32) ≤ v3 then ((some (v2, D))) else (zlet (sI D a0 11 (0 : Int32)) fun D4 => (fn_X0_findsPartnerT a0 v1 v3 (0 : Int32) D4).bind fun q5 => (if q5.1 = 0 then (((fn_X0_fewestRows_17 a0 v1 n) v2 (v3 + (1 : Int32)) q5.2)) else (((fn_X0_fewestRows_17 a0 v1 n) (v2 + (1 : Int32)) (v3 + (1 : Int32)) q5.2)))))
def fn_X0_fewestRows (a0 : Nat) (v1 : Int32) (D : zD) : Option (Int32 × zD) := (fn_X0_numberRows a0 v1 D).bind fun D1 => (fn_JA_fill2 (a0 + 7) 30 (-1 : Int32) D1).bind fun D2 => (fn_X0_fewestRows_17 a0 v1 zFU (0 : Int32) (0 : Int32) D2)
theorem s_X0_fewestRows_17 {X : zX} {Sh : zSh} {d : Nat} (hst : (zl X).stackTraces = false) (h0 : zSh0 Sh) (hd : 100 ≤ d) {a0 : Nat} {v1 : Int32} (h_a0 : a0 ∈ zI_0) : ∀ (n : Nat) (v2 : Int32) (v3 : Int32) (D : zD) , Rn X m_X0_fewestRows (d + 1) 17 [(0, .ref a0), (1, .int v1), (2, .int v2), (3, .int v3)] [] (Sh, D) ((oI Sh) (fn_X0_fewestRows_17 a0 v1 n v2 v3 D)) := by
  intro n
  induction n with
  | zero => intro v2 v3 D; exact Rn_none rfl
  | succ n hk17 =>
    intro v2 v3 D
    rw [fn_X0_fewestRows_17]
    refine r_iload_n (pc := 17) 3 d_X0_fewestRows_17 rfl rfl ?_
    refine r_bipush (pc := 18) (30 : Int32) d_X0_fewestRows_18 rfl ?_
    refine r_icmp_ge (f := (oI Sh)) (pc := 20) 47 d_X0_fewestRows_20 (by decide) (fun c3 => ?_) (fun c3 => ?_)
    · refine r_iload_n (pc := 47) 2 d_X0_fewestRows_47 rfl rfl ?_
      exact r_iret (pc := 48) rfl d_X0_fewestRows_48
    · refine r_aload_n (pc := 23) 0 d_X0_fewestRows_23 rfl rfl ?_
      refine r_iconst (pc := 24) (0 : Int32) d_X0_fewestRows_24 rfl ?_
      refine r_putI (pc := 25) p_X0_94 (LK_0 h0 h_a0) rfl (Or.inl rfl) d_X0_fewestRows_25 ?_
      refine r_letD (f := (oI Sh)) (fun D4 => ?_)
      refine r_aload_n (pc := 28) 0 d_X0_fewestRows_28 rfl rfl ?_
      refine r_iload_n (pc := 29) 1 d_X0_fewestRows_29 rfl rfl ?_
      refine r_iload_n (pc := 30) 3 d_X0_fewestRows_30 rfl rfl ?_
      refine r_iconst (pc := 31) (0 : Int32) d_X0_fewestRows_31 rfl ?_
      refine q_cI (f := (oI Sh)) (av := [.ref a0, .int v1, .int v3, .int (0 : Int32)]) (st := []) (z_runV ck_X0_findsPartner rfl ml_X0_97 ci_X0_findsPartner cv_X0_findsPartner (LK_0 h0 h_a0) (ci := 0) rfl rfl (Nat.le_of_ble_eq_true rfl) d_X0_fewestRows_32) (s_X0_findsPartnerT hst h0 (by omega) h_a0) kp_I (fun q5 _ => ?_)
      refine r_if_eq (f := (oI Sh)) (pc := 35) 41 d_X0_fewestRows_35 (by decide) (fun c6 => ?_) (fun c6 => ?_)
      · refine r_iinc (pc := 41) ((v3 + (1 : Int32))) 3 (ls' := [(3, .int (v3 + (1 : Int32))), (0, .ref a0), (1, .int v1), (2, .int v2)]) d_X0_fewestRows_41 rfl rfl (Nat.le_of_ble_eq_true rfl) rfl ?_
        refine r_goto (pc := 44) 17 d_X0_fewestRows_44 (by decide) ?_
        refine r_pick [1, 2, 3, 0] (ls' := [(0, .ref a0), (1, .int v1), (2, .int v2), (3, .int (v3 + (1 : Int32)))]) rfl ?_
        exact hk17 v2 (v3 + (1 : Int32)) q5.2 
      · refine r_iinc (pc := 38) ((v2 + (1 : Int32))) 2 (ls' := [(2, .int (v2 + (1 : Int32))), (0, .ref a0), (1, .int v1), (3, .int v3)]) d_X0_fewestRows_38 rfl rfl (Nat.le_of_ble_eq_true rfl) rfl ?_
        refine r_iinc (pc := 41) ((v3 + (1 : Int32))) 3 (ls' := [(3, .int (v3 + (1 : Int32))), (2, .int (v2 + (1 : Int32))), (0, .ref a0), (1, .int v1)]) d_X0_fewestRows_41 rfl rfl (Nat.le_of_ble_eq_true rfl) rfl ?_
        refine r_goto (pc := 44) 17 d_X0_fewestRows_44 (by decide) ?_
        refine r_pick [2, 3, 1, 0] (ls' := [(0, .ref a0), (1, .int v1), (2, .int (v2 + (1 : Int32))), (3, .int (v3 + (1 : Int32)))]) rfl ?_
        exact hk17 (v2 + (1 : Int32)) (v3 + (1 : Int32)) q5.2 
theorem s_X0_fewestRows {X : zX} {Sh : zSh} {d : Nat} (hst : (zl X).stackTraces = false) (h0 : zSh0 Sh) (hd : 101 ≤ d) {a0 : Nat} {v1 : Int32} (h_a0 : a0 ∈ zI_0) {D : zD} : Sd X m_X0_fewestRows d [.ref a0, .int v1] (Sh, D) ((oI Sh) (fn_X0_fewestRows a0 v1 D)) := by
  obtain ⟨d, rfl⟩ : ∃ e, d = e + 1 := ⟨d - 1, by omega⟩
  replace hd : 100 ≤ d := by omega
  refine z_body ck_X0_fewestRows rfl (Nat.le_of_ble_eq_true rfl) rfl hst ?_
  rw [fn_X0_fewestRows]
  show Rn X m_X0_fewestRows (d + 1) 0 [(0, .ref a0), (1, .int v1)] [] (Sh, D) _
  refine r_aload_n (pc := 0) 0 d_X0_fewestRows_0 rfl rfl ?_
  refine r_iload_n (pc := 1) 1 d_X0_fewestRows_1 rfl rfl ?_
  refine q_cV (f := (oI Sh)) (av := [.ref a0, .int v1]) (st := []) (z_runV ck_X0_numberRows rfl ml_X0_84 ci_X0_numberRows cv_X0_numberRows (LK_0 h0 h_a0) (ci := 0) rfl rfl (Nat.le_of_ble_eq_true rfl) d_X0_fewestRows_2) (s_X0_numberRows hst h0 (by omega) h_a0) kp_I (fun D1 _ => ?_)
  refine r_aload_n (pc := 5) 0 d_X0_fewestRows_5 rfl rfl ?_
  refine r_getR (pc := 6) g_X0_37 (LK_0 h0 h_a0) rfl (LR_0_10 h0 h_a0) d_X0_fewestRows_6 ?_
  refine r_iconst (pc := 9) (-1 : Int32) d_X0_fewestRows_9 rfl ?_
  refine q_cV (f := (oI Sh)) (av := [.ref (a0 + 7), .int (-1 : Int32)]) (st := []) (z_runS ck_JA_fill2 rfl ml_X0_88 cs_JA_fill2 rfl (Nat.le_of_ble_eq_true rfl) d_X0_fewestRows_10) (s_JA_fill2 hst h0 (by omega) (LA_0_10 h0 h_a0) (by decide)) kp_I (fun D2 _ => ?_)
  refine r_iconst (pc := 13) (0 : Int32) d_X0_fewestRows_13 rfl ?_
  refine r_istore_n (pc := 14) (ls' := [(2, .int (0 : Int32)), (0, .ref a0), (1, .int v1)]) d_X0_fewestRows_14 rfl (Nat.le_of_ble_eq_true rfl) rfl ?_
  refine r_iconst (pc := 15) (0 : Int32) d_X0_fewestRows_15 rfl ?_
  refine r_istore_n (pc := 16) (ls' := [(3, .int (0 : Int32)), (2, .int (0 : Int32)), (0, .ref a0), (1, .int v1)]) d_X0_fewestRows_16 rfl (Nat.le_of_ble_eq_true rfl) rfl ?_
  refine r_pick [2, 3, 1, 0] (ls' := [(0, .ref a0), (1, .int v1), (2, .int (0 : Int32)), (3, .int (0 : Int32))]) rfl ?_
  exact s_X0_fewestRows_17 hst h0 hd h_a0 zFU  (0 : Int32) (0 : Int32) D2

