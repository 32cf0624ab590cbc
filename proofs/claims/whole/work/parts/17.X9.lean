/-! CoveredSigns$Scene.clear -/
theorem d_X9_clear_0 : decode (yB m_X9_clear) 0 = .ok (.aload_n 0, 1) := by decide +kernel
theorem d_X9_clear_1 : decode (yB m_X9_clear) 1 = .ok (.iconst 0, 1) := by decide +kernel
theorem d_X9_clear_2 : decode (yB m_X9_clear) 2 = .ok (.putfield 27, 3) := by decide +kernel
theorem d_X9_clear_5 : decode (yB m_X9_clear) 5 = .ok (.aload_n 0, 1) := by decide +kernel
theorem d_X9_clear_6 : decode (yB m_X9_clear) 6 = .ok (.iconst 0, 1) := by decide +kernel
theorem d_X9_clear_7 : decode (yB m_X9_clear) 7 = .ok (.putfield 31, 3) := by decide +kernel
theorem d_X9_clear_10 : decode (yB m_X9_clear) 10 = .ok (.aload_n 0, 1) := by decide +kernel
theorem d_X9_clear_11 : decode (yB m_X9_clear) 11 = .ok (.iconst 0, 1) := by decide +kernel
theorem d_X9_clear_12 : decode (yB m_X9_clear) 12 = .ok (.putfield 34, 3) := by decide +kernel
theorem d_X9_clear_15 : decode (yB m_X9_clear) 15 = .ok (.return_, 1) := by decide +kernel
def fn_X9_clear (a0 : Nat) (D : zD) : Option zD := zlet (sI D a0 0 (0 : Int32)) fun D1 => zlet (sI D1 a0 1 (0 : Int32)) fun D2 => zlet (sI D2 a0 2 (0 : Int32)) fun D3 => (some D3)
theorem s_X9_clear {X : zX} {Sh : zSh} {d : Nat} (hst : (zl X).stackTraces = false) (h0 : zSh0 Sh) (hd : 1 ≤ d) {a0 : Nat} (h_a0 : a0 ∈ zI_9) {D : zD} : Sd X m_X9_clear d [.ref a0] (Sh, D) ((oV Sh) (fn_X9_clear a0 D)) := by
  obtain ⟨d, rfl⟩ : ∃ e, d = e + 1 := ⟨d - 1, by omega⟩
  replace hd : 0 ≤ d := by omega
  refine z_body ck_X9_clear rfl (Nat.le_of_ble_eq_true rfl) rfl hst ?_
  rw [fn_X9_clear]
  show Rn X m_X9_clear (d + 1) 0 [(0, .ref a0)] [] (Sh, D) _
  refine r_aload_n (pc := 0) 0 d_X9_clear_0 rfl rfl ?_
  refine r_iconst (pc := 1) (0 : Int32) d_X9_clear_1 rfl ?_
  refine r_putI (pc := 2) p_X9_27 (LK_9 h0 h_a0) rfl (Or.inl rfl) d_X9_clear_2 ?_
  refine r_letD (f := (oV Sh)) (fun D1 => ?_)
  refine r_aload_n (pc := 5) 0 d_X9_clear_5 rfl rfl ?_
  refine r_iconst (pc := 6) (0 : Int32) d_X9_clear_6 rfl ?_
  refine r_putI (pc := 7) p_X9_31 (LK_9 h0 h_a0) rfl (Or.inl rfl) d_X9_clear_7 ?_
  refine r_letD (f := (oV Sh)) (fun D2 => ?_)
  refine r_aload_n (pc := 10) 0 d_X9_clear_10 rfl rfl ?_
  refine r_iconst (pc := 11) (0 : Int32) d_X9_clear_11 rfl ?_
  refine r_putI (pc := 12) p_X9_34 (LK_9 h0 h_a0) rfl (Or.inl rfl) d_X9_clear_12 ?_
  refine r_letD (f := (oV Sh)) (fun D3 => ?_)
  exact r_vret (pc := 15) rfl d_X9_clear_15
/-! CoveredSigns$Scene.copyFrom -/
theorem d_X9_copyFrom_0 : decode (yB m_X9_copyFrom) 0 = .ok (.aload_n 1, 1) := by decide +kernel
theorem d_X9_copyFrom_1 : decode (yB m_X9_copyFrom) 1 = .ok (.ifnonnull 4, 3) := by decide +kernel
theorem d_X9_copyFrom_4 : decode (yB m_X9_copyFrom) 4 = .ok (.return_, 1) := by decide +kernel
theorem d_X9_copyFrom_5 : decode (yB m_X9_copyFrom) 5 = .ok (.aload_n 0, 1) := by decide +kernel
theorem d_X9_copyFrom_6 : decode (yB m_X9_copyFrom) 6 = .ok (.aload_n 1, 1) := by decide +kernel
theorem d_X9_copyFrom_7 : decode (yB m_X9_copyFrom) 7 = .ok (.getfield 27, 3) := by decide +kernel
theorem d_X9_copyFrom_10 : decode (yB m_X9_copyFrom) 10 = .ok (.putfield 27, 3) := by decide +kernel
theorem d_X9_copyFrom_13 : decode (yB m_X9_copyFrom) 13 = .ok (.aload_n 0, 1) := by decide +kernel
theorem d_X9_copyFrom_14 : decode (yB m_X9_copyFrom) 14 = .ok (.aload_n 1, 1) := by decide +kernel
theorem d_X9_copyFrom_15 : decode (yB m_X9_copyFrom) 15 = .ok (.getfield 31, 3) := by decide +kernel
theorem d_X9_copyFrom_18 : decode (yB m_X9_copyFrom) 18 = .ok (.putfield 31, 3) := by decide +kernel
theorem d_X9_copyFrom_21 : decode (yB m_X9_copyFrom) 21 = .ok (.aload_n 0, 1) := by decide +kernel
theorem d_X9_copyFrom_22 : decode (yB m_X9_copyFrom) 22 = .ok (.aload_n 1, 1) := by decide +kernel
theorem d_X9_copyFrom_23 : decode (yB m_X9_copyFrom) 23 = .ok (.getfield 34, 3) := by decide +kernel
theorem d_X9_copyFrom_26 : decode (yB m_X9_copyFrom) 26 = .ok (.putfield 34, 3) := by decide +kernel
theorem d_X9_copyFrom_29 : decode (yB m_X9_copyFrom) 29 = .ok (.aload_n 1, 1) := by decide +kernel
theorem d_X9_copyFrom_30 : decode (yB m_X9_copyFrom) 30 = .ok (.getfield 9, 3) := by decide +kernel
theorem d_X9_copyFrom_33 : decode (yB m_X9_copyFrom) 33 = .ok (.iconst 0, 1) := by decide +kernel
theorem d_X9_copyFrom_34 : decode (yB m_X9_copyFrom) 34 = .ok (.aload_n 0, 1) := by decide +kernel
theorem d_X9_copyFrom_35 : decode (yB m_X9_copyFrom) 35 = .ok (.getfield 9, 3) := by decide +kernel
theorem d_X9_copyFrom_38 : decode (yB m_X9_copyFrom) 38 = .ok (.iconst 0, 1) := by decide +kernel
theorem d_X9_copyFrom_39 : decode (yB m_X9_copyFrom) 39 = .ok (.bipush 6, 2) := by decide +kernel
theorem d_X9_copyFrom_41 : decode (yB m_X9_copyFrom) 41 = .ok (.invokestatic 37, 3) := by decide +kernel
theorem d_X9_copyFrom_44 : decode (yB m_X9_copyFrom) 44 = .ok (.aload_n 1, 1) := by decide +kernel
theorem d_X9_copyFrom_45 : decode (yB m_X9_copyFrom) 45 = .ok (.getfield 15, 3) := by decide +kernel
theorem d_X9_copyFrom_48 : decode (yB m_X9_copyFrom) 48 = .ok (.iconst 0, 1) := by decide +kernel
theorem d_X9_copyFrom_49 : decode (yB m_X9_copyFrom) 49 = .ok (.aload_n 0, 1) := by decide +kernel
theorem d_X9_copyFrom_50 : decode (yB m_X9_copyFrom) 50 = .ok (.getfield 15, 3) := by decide +kernel
theorem d_X9_copyFrom_53 : decode (yB m_X9_copyFrom) 53 = .ok (.iconst 0, 1) := by decide +kernel
theorem d_X9_copyFrom_54 : decode (yB m_X9_copyFrom) 54 = .ok (.bipush 6, 2) := by decide +kernel
theorem d_X9_copyFrom_56 : decode (yB m_X9_copyFrom) 56 = .ok (.invokestatic 37, 3) := by decide +kernel
theorem d_X9_copyFrom_59 : decode (yB m_X9_copyFrom) 59 = .ok (.aload_n 1, 1) := by decide +kernel
theorem d_X9_copyFrom_60 : decode (yB m_X9_copyFrom) 60 = .ok (.getfield 18, 3) := by decide +kernel
theorem d_X9_copyFrom_63 : decode (yB m_X9_copyFrom) 63 = .ok (.iconst 0, 1) := by decide +kernel
theorem d_X9_copyFrom_64 : decode (yB m_X9_copyFrom) 64 = .ok (.aload_n 0, 1) := by decide +kernel
theorem d_X9_copyFrom_65 : decode (yB m_X9_copyFrom) 65 = .ok (.getfield 18, 3) := by decide +kernel
theorem d_X9_copyFrom_68 : decode (yB m_X9_copyFrom) 68 = .ok (.iconst 0, 1) := by decide +kernel
theorem d_X9_copyFrom_69 : decode (yB m_X9_copyFrom) 69 = .ok (.bipush 8, 2) := by decide +kernel
theorem d_X9_copyFrom_71 : decode (yB m_X9_copyFrom) 71 = .ok (.invokestatic 37, 3) := by decide +kernel
theorem d_X9_copyFrom_74 : decode (yB m_X9_copyFrom) 74 = .ok (.aload_n 1, 1) := by decide +kernel
theorem d_X9_copyFrom_75 : decode (yB m_X9_copyFrom) 75 = .ok (.getfield 21, 3) := by decide +kernel
theorem d_X9_copyFrom_78 : decode (yB m_X9_copyFrom) 78 = .ok (.iconst 0, 1) := by decide +kernel
theorem d_X9_copyFrom_79 : decode (yB m_X9_copyFrom) 79 = .ok (.aload_n 0, 1) := by decide +kernel
theorem d_X9_copyFrom_80 : decode (yB m_X9_copyFrom) 80 = .ok (.getfield 21, 3) := by decide +kernel
theorem d_X9_copyFrom_83 : decode (yB m_X9_copyFrom) 83 = .ok (.iconst 0, 1) := by decide +kernel
theorem d_X9_copyFrom_84 : decode (yB m_X9_copyFrom) 84 = .ok (.bipush 8, 2) := by decide +kernel
theorem d_X9_copyFrom_86 : decode (yB m_X9_copyFrom) 86 = .ok (.invokestatic 37, 3) := by decide +kernel
theorem d_X9_copyFrom_89 : decode (yB m_X9_copyFrom) 89 = .ok (.aload_n 1, 1) := by decide +kernel
theorem d_X9_copyFrom_90 : decode (yB m_X9_copyFrom) 90 = .ok (.getfield 24, 3) := by decide +kernel
theorem d_X9_copyFrom_93 : decode (yB m_X9_copyFrom) 93 = .ok (.iconst 0, 1) := by decide +kernel
theorem d_X9_copyFrom_94 : decode (yB m_X9_copyFrom) 94 = .ok (.aload_n 0, 1) := by decide +kernel
theorem d_X9_copyFrom_95 : decode (yB m_X9_copyFrom) 95 = .ok (.getfield 24, 3) := by decide +kernel
theorem d_X9_copyFrom_98 : decode (yB m_X9_copyFrom) 98 = .ok (.iconst 0, 1) := by decide +kernel
theorem d_X9_copyFrom_99 : decode (yB m_X9_copyFrom) 99 = .ok (.bipush 8, 2) := by decide +kernel
theorem d_X9_copyFrom_101 : decode (yB m_X9_copyFrom) 101 = .ok (.invokestatic 37, 3) := by decide +kernel
theorem d_X9_copyFrom_104 : decode (yB m_X9_copyFrom) 104 = .ok (.return_, 1) := by decide +kernel
def fn_X9_copyFrom (a0 : Nat) (a1 : Nat) (D : zD) : Option zD := zlet (sI D a0 0 (gI D a1 0)) fun D1 => zlet (sI D1 a0 1 (gI D1 a1 1)) fun D2 => zlet (sI D2 a0 2 (gI D2 a1 2)) fun D3 => zcp (0 : Int32) (0 : Int32) (6 : Int32) 6 6 <| zlet (sC D3 (a1 + 1) (a0 + 1) (0 : Int32).toNatClampNeg (0 : Int32).toNatClampNeg (6 : Int32).toNatClampNeg) fun D5 => zcp (0 : Int32) (0 : Int32) (6 : Int32) 6 6 <| zlet (sC D5 (a1 + 2) (a0 + 2) (0 : Int32).toNatClampNeg (0 : Int32).toNatClampNeg (6 : Int32).toNatClampNeg) fun D7 => zcp (0 : Int32) (0 : Int32) (8 : Int32) 8 8 <| zlet (sC D7 (a1 + 3) (a0 + 3) (0 : Int32).toNatClampNeg (0 : Int32).toNatClampNeg (8 : Int32).toNatClampNeg) fun D9 => zcp (0 : Int32) (0 : Int32) (8 : Int32) 8 8 <| zlet (sC D9 (a1 + 4) (a0 + 4) (0 : Int32).toNatClampNeg (0 : Int32).toNatClampNeg (8 : Int32).toNatClampNeg) fun D11 => zcp (0 : Int32) (0 : Int32) (8 : Int32) 8 8 <| zlet (sC D11 (a1 + 5) (a0 + 5) (0 : Int32).toNatClampNeg (0 : Int32).toNatClampNeg (8 : Int32).toNatClampNeg) fun D13 => (some D13)
theorem s_X9_copyFrom {X : zX} {Sh : zSh} {d : Nat} (hst : (zl X).stackTraces = false) (h0 : zSh0 Sh) (hd : 5 ≤ d) {a0 : Nat} {a1 : Nat} (h_a0 : a0 ∈ zI_9) (h_a1 : a1 ∈ zI_9) {D : zD} : Sd X m_X9_copyFrom d [.ref a0, .ref a1] (Sh, D) ((oV Sh) (fn_X9_copyFrom a0 a1 D)) := by
  obtain ⟨d, rfl⟩ : ∃ e, d = e + 1 := ⟨d - 1, by omega⟩
  replace hd : 4 ≤ d := by omega
  refine z_body ck_X9_copyFrom rfl (Nat.le_of_ble_eq_true rfl) rfl hst ?_
  rw [fn_X9_copyFrom]
  show Rn X m_X9_copyFrom (d + 1) 0 [(0, .ref a0), (1, .ref a1)] [] (Sh, D) _
  refine r_aload_n (pc := 0) 1 d_X9_copyFrom_0 rfl rfl ?_
  refine r_nonnull (pc := 1) 5 d_X9_copyFrom_1 (by decide) ?_
  refine r_aload_n (pc := 5) 0 d_X9_copyFrom_5 rfl rfl ?_
  refine r_aload_n (pc := 6) 1 d_X9_copyFrom_6 rfl rfl ?_
  refine q_gI (pc := 7) g_X9_27 (LK_9 h0 h_a1) rfl d_X9_copyFrom_7 ?_
  refine r_putI (pc := 10) p_X9_27 (LK_9 h0 h_a0) rfl (Or.inl rfl) d_X9_copyFrom_10 ?_
  refine r_letD (f := (oV Sh)) (fun D1 => ?_)
  refine r_aload_n (pc := 13) 0 d_X9_copyFrom_13 rfl rfl ?_
  refine r_aload_n (pc := 14) 1 d_X9_copyFrom_14 rfl rfl ?_
  refine q_gI (pc := 15) g_X9_31 (LK_9 h0 h_a1) rfl d_X9_copyFrom_15 ?_
  refine r_putI (pc := 18) p_X9_31 (LK_9 h0 h_a0) rfl (Or.inl rfl) d_X9_copyFrom_18 ?_
  refine r_letD (f := (oV Sh)) (fun D2 => ?_)
  refine r_aload_n (pc := 21) 0 d_X9_copyFrom_21 rfl rfl ?_
  refine r_aload_n (pc := 22) 1 d_X9_copyFrom_22 rfl rfl ?_
  refine q_gI (pc := 23) g_X9_34 (LK_9 h0 h_a1) rfl d_X9_copyFrom_23 ?_
  refine r_putI (pc := 26) p_X9_34 (LK_9 h0 h_a0) rfl (Or.inl rfl) d_X9_copyFrom_26 ?_
  refine r_letD (f := (oV Sh)) (fun D3 => ?_)
  refine r_aload_n (pc := 29) 1 d_X9_copyFrom_29 rfl rfl ?_
  refine r_getR (pc := 30) g_X9_9 (LK_9 h0 h_a1) rfl (LR_9_3 h0 h_a1) d_X9_copyFrom_30 ?_
  refine r_iconst (pc := 33) (0 : Int32) d_X9_copyFrom_33 rfl ?_
  refine r_aload_n (pc := 34) 0 d_X9_copyFrom_34 rfl rfl ?_
  refine r_getR (pc := 35) g_X9_9 (LK_9 h0 h_a0) rfl (LR_9_3 h0 h_a0) d_X9_copyFrom_35 ?_
  refine r_iconst (pc := 38) (0 : Int32) d_X9_copyFrom_38 rfl ?_
  refine r_bipush (pc := 39) (6 : Int32) d_X9_copyFrom_39 rfl ?_
  refine r_cp (f := (oV Sh)) rfl (fun hc4 => ?_)
  refine q_acopy (pc := 41) ml_X9_37 (LA_9_3 h0 h_a1) (LA_9_3 h0 h_a0) h0.2.2 hc4 (by omega) (Nat.le_of_ble_eq_true rfl) d_X9_copyFrom_41 ?_
  refine r_letD (f := (oV Sh)) (fun D5 => ?_)
  refine r_aload_n (pc := 44) 1 d_X9_copyFrom_44 rfl rfl ?_
  refine r_getR (pc := 45) g_X9_15 (LK_9 h0 h_a1) rfl (LR_9_4 h0 h_a1) d_X9_copyFrom_45 ?_
  refine r_iconst (pc := 48) (0 : Int32) d_X9_copyFrom_48 rfl ?_
  refine r_aload_n (pc := 49) 0 d_X9_copyFrom_49 rfl rfl ?_
  refine r_getR (pc := 50) g_X9_15 (LK_9 h0 h_a0) rfl (LR_9_4 h0 h_a0) d_X9_copyFrom_50 ?_
  refine r_iconst (pc := 53) (0 : Int32) d_X9_copyFrom_53 rfl ?_
  refine r_bipush (pc := 54) (6 : Int32) d_X9_copyFrom_54 rfl ?_
  refine r_cp (f := (oV Sh)) rfl (fun hc6 => ?_)
  refine q_acopy (pc := 56) ml_X9_37 (LA_9_4 h0 h_a1) (LA_9_4 h0 h_a0) h0.2.2 hc6 (by omega) (Nat.le_of_ble_eq_true rfl) d_X9_copyFrom_56 ?_
  refine r_letD (f := (oV Sh)) (fun D7 => ?_)
  refine r_aload_n (pc := 59) 1 d_X9_copyFrom_59 rfl rfl ?_
  refine r_getR (pc := 60) g_X9_18 (LK_9 h0 h_a1) rfl (LR_9_5 h0 h_a1) d_X9_copyFrom_60 ?_
  refine r_iconst (pc := 63) (0 : Int32) d_X9_copyFrom_63 rfl ?_
  refine r_aload_n (pc := 64) 0 d_X9_copyFrom_64 rfl rfl ?_
  refine r_getR (pc := 65) g_X9_18 (LK_9 h0 h_a0) rfl (LR_9_5 h0 h_a0) d_X9_copyFrom_65 ?_
  refine r_iconst (pc := 68) (0 : Int32) d_X9_copyFrom_68 rfl ?_
  refine r_bipush (pc := 69) (8 : Int32) d_X9_copyFrom_69 rfl ?_
  refine r_cp (f := (oV Sh)) rfl (fun hc8 => ?_)
  refine q_acopy (pc := 71) ml_X9_37 (LA_9_5 h0 h_a1) (LA_9_5 h0 h_a0) h0.2.2 hc8 (by omega) (Nat.le_of_ble_eq_true rfl) d_X9_copyFrom_71 ?_
  refine r_letD (f := (oV Sh)) (fun D9 => ?_)
  refine r_aload_n (pc := 74) 1 d_X9_copyFrom_74 rfl rfl ?_
  refine r_getR (pc := 75) g_X9_21 (LK_9 h0 h_a1) rfl (LR_9_6 h0 h_a1) d_X9_copyFrom_75 ?_
  refine r_iconst (pc := 78) (0 : Int32) d_X9_copyFrom_78 rfl ?_
  refine r_aload_n (pc := 79) 0 d_X9_copyFrom_79 rfl rfl ?_
  refine r_getR (pc := 80) g_X9_21 (LK_9 h0 h_a0) rfl (LR_9_6 h0 h_a0) d_X9_copyFrom_80 ?_
  refine r_iconst (pc := 83) (0 : Int32) d_X9_copyFrom_83 rfl ?_
  refine r_bipush (pc := 84) (8 : Int32) d_X9_copyFrom_84 rfl ?_
  refine r_cp (f := (oV Sh)) rfl (fun hc10 => ?_)
  refine q_acopy (pc := 86) ml_X9_37 (LA_9_6 h0 h_a1) (LA_9_6 h0 h_a0) h0.2.2 hc10 (by omega) (Nat.le_of_ble_eq_true rfl) d_X9_copyFrom_86 ?_
  refine r_letD (f := (oV Sh)) (fun D11 => ?_)
  refine r_aload_n (pc := 89) 1 d_X9_copyFrom_89 rfl rfl ?_
  refine r_getR (pc := 90) g_X9_24 (LK_9 h0 h_a1) rfl (LR_9_7 h0 h_a1) d_X9_copyFrom_90 ?_
  refine r_iconst (pc := 93) (0 : Int32) d_X9_copyFrom_93 rfl ?_
  refine r_aload_n (pc := 94) 0 d_X9_copyFrom_94 rfl rfl ?_
  refine r_getR (pc := 95) g_X9_24 (LK_9 h0 h_a0) rfl (LR_9_7 h0 h_a0) d_X9_copyFrom_95 ?_
  refine r_iconst (pc := 98) (0 : Int32) d_X9_copyFrom_98 rfl ?_
  refine r_bipush (pc := 99) (8 : Int32) d_X9_copyFrom_99 rfl ?_
  refine r_cp (f := (oV Sh)) rfl (fun hc12 => ?_)
  refine q_acopy (pc := 101) ml_X9_37 (LA_9_7 h0 h_a1) (LA_9_7 h0 h_a0) h0.2.2 hc12 (by omega) (Nat.le_of_ble_eq_true rfl) d_X9_copyFrom_101 ?_
  refine r_letD (f := (oV Sh)) (fun D13 => ?_)
  exact r_vret (pc := 104) rfl d_X9_copyFrom_104
/-! CoveredSigns$Scene.addPart -/
theorem d_X9_addPart_0 : decode (yB m_X9_addPart) 0 = .ok (.aload_n 0, 1) := by decide +kernel
theorem d_X9_addPart_1 : decode (yB m_X9_addPart) 1 = .ok (.getfield 31, 3) := by decide +kernel
theorem d_X9_addPart_4 : decode (yB m_X9_addPart) 4 = .ok (.ifCond .lt 12, 3) := by decide +kernel
theorem d_X9_addPart_7 : decode (yB m_X9_addPart) 7 = .ok (.aload_n 0, 1) := by decide +kernel
theorem d_X9_addPart_8 : decode (yB m_X9_addPart) 8 = .ok (.getfield 31, 3) := by decide +kernel
theorem d_X9_addPart_11 : decode (yB m_X9_addPart) 11 = .ok (.bipush 6, 2) := by decide +kernel
theorem d_X9_addPart_13 : decode (yB m_X9_addPart) 13 = .ok (.if_icmp .lt 5, 3) := by decide +kernel
theorem d_X9_addPart_16 : decode (yB m_X9_addPart) 16 = .ok (.iconst (-1), 1) := by decide +kernel
theorem d_X9_addPart_17 : decode (yB m_X9_addPart) 17 = .ok (.ireturn, 1) := by decide +kernel
theorem d_X9_addPart_18 : decode (yB m_X9_addPart) 18 = .ok (.aload_n 0, 1) := by decide +kernel
theorem d_X9_addPart_19 : decode (yB m_X9_addPart) 19 = .ok (.getfield 9, 3) := by decide +kernel
theorem d_X9_addPart_22 : decode (yB m_X9_addPart) 22 = .ok (.aload_n 0, 1) := by decide +kernel
theorem d_X9_addPart_23 : decode (yB m_X9_addPart) 23 = .ok (.getfield 31, 3) := by decide +kernel
theorem d_X9_addPart_26 : decode (yB m_X9_addPart) 26 = .ok (.iload_n 1, 1) := by decide +kernel
theorem d_X9_addPart_27 : decode (yB m_X9_addPart) 27 = .ok (.iastore, 1) := by decide +kernel
theorem d_X9_addPart_28 : decode (yB m_X9_addPart) 28 = .ok (.aload_n 0, 1) := by decide +kernel
theorem d_X9_addPart_29 : decode (yB m_X9_addPart) 29 = .ok (.getfield 15, 3) := by decide +kernel
theorem d_X9_addPart_32 : decode (yB m_X9_addPart) 32 = .ok (.aload_n 0, 1) := by decide +kernel
theorem d_X9_addPart_33 : decode (yB m_X9_addPart) 33 = .ok (.getfield 31, 3) := by decide +kernel
theorem d_X9_addPart_36 : decode (yB m_X9_addPart) 36 = .ok (.iload_n 2, 1) := by decide +kernel
theorem d_X9_addPart_37 : decode (yB m_X9_addPart) 37 = .ok (.iastore, 1) := by decide +kernel
theorem d_X9_addPart_38 : decode (yB m_X9_addPart) 38 = .ok (.aload_n 0, 1) := by decide +kernel
theorem d_X9_addPart_39 : decode (yB m_X9_addPart) 39 = .ok (.dup, 1) := by decide +kernel
theorem d_X9_addPart_40 : decode (yB m_X9_addPart) 40 = .ok (.getfield 31, 3) := by decide +kernel
theorem d_X9_addPart_43 : decode (yB m_X9_addPart) 43 = .ok (.iconst 1, 1) := by decide +kernel
theorem d_X9_addPart_44 : decode (yB m_X9_addPart) 44 = .ok (.iadd, 1) := by decide +kernel
theorem d_X9_addPart_45 : decode (yB m_X9_addPart) 45 = .ok (.putfield 31, 3) := by decide +kernel
theorem d_X9_addPart_48 : decode (yB m_X9_addPart) 48 = .ok (.aload_n 0, 1) := by decide +kernel
theorem d_X9_addPart_49 : decode (yB m_X9_addPart) 49 = .ok (.getfield 31, 3) := by decide +kernel
theorem d_X9_addPart_52 : decode (yB m_X9_addPart) 52 = .ok (.ireturn, 1) := by decide +kernel
def fn_X9_addPart (a0 : Nat) (v1 : Int32) (v2 : Int32) (D : zD) : Option (Int32 × zD) := (if (gI D a0 1) < 0 then ((some ((-1 : Int32), D))) else ((if (gI D a0 1) < (6 : Int32) then (zck (gI D a0 1) 6 <| zlet (sI D (a0 + 1) (gI D a0 1).toNatClampNeg v1) fun D4 => zck (gI D4 a0 1) 6 <| zlet (sI D4 (a0 + 2) (gI D4 a0 1).toNatClampNeg v2) fun D6 => zlet (sI D6 a0 1 ((gI D6 a0 1) + (1 : Int32))) fun D7 => (some ((gI D7 a0 1), D7))) else ((some ((-1 : Int32), D))))))
theorem s_X9_addPart {X : zX} {Sh : zSh} {d : Nat} (hst : (zl X).stackTraces = false) (h0 : zSh0 Sh) (hd : 1 ≤ d) {a0 : Nat} {v1 : Int32} {v2 : Int32} (h_a0 : a0 ∈ zI_9) {D : zD} : Sd X m_X9_addPart d [.ref a0, .int v1, .int v2] (Sh, D) ((oI Sh) (fn_X9_addPart a0 v1 v2 D)) := by
  obtain ⟨d, rfl⟩ : ∃ e, d = e + 1 := ⟨d - 1, by omega⟩
  replace hd : 0 ≤ d := by omega
  refine z_body ck_X9_addPart rfl (Nat.le_of_ble_eq_true rfl) rfl hst ?_
  rw [fn_X9_addPart]
  show Rn X m_X9_addPart (d + 1) 0 [(0, .ref a0), (1, .int v1), (2, .int v2)] [] (Sh, D) _
  refine r_aload_n (pc := 0) 0 d_X9_addPart_0 rfl rfl ?_
  refine q_gI (pc := 1) g_X9_31 (LK_9 h0 h_a0) rfl d_X9_addPart_1 ?_
  refine r_if_lt (f := (oI Sh)) (pc := 4) 16 d_X9_addPart_4 (by decide) (fun c1 => ?_) (fun c1 => ?_)
  · refine r_iconst (pc := 16) (-1 : Int32) d_X9_addPart_16 rfl ?_
    exact r_iret (pc := 17) rfl d_X9_addPart_17
  · refine r_aload_n (pc := 7) 0 d_X9_addPart_7 rfl rfl ?_
    refine q_gI (pc := 8) g_X9_31 (LK_9 h0 h_a0) rfl d_X9_addPart_8 ?_
    refine r_bipush (pc := 11) (6 : Int32) d_X9_addPart_11 rfl ?_
    refine r_icmp_lt (f := (oI Sh)) (pc := 13) 18 d_X9_addPart_13 (by decide) (fun c2 => ?_) (fun c2 => ?_)
    · refine r_aload_n (pc := 18) 0 d_X9_addPart_18 rfl rfl ?_
      refine r_getR (pc := 19) g_X9_9 (LK_9 h0 h_a0) rfl (LR_9_3 h0 h_a0) d_X9_addPart_19 ?_
      refine r_aload_n (pc := 22) 0 d_X9_addPart_22 rfl rfl ?_
      refine q_gI (pc := 23) g_X9_31 (LK_9 h0 h_a0) rfl d_X9_addPart_23 ?_
      refine r_iload_n (pc := 26) 1 d_X9_addPart_26 rfl rfl ?_
      refine r_ck (f := (oI Sh)) rfl (fun hc3 => ?_)
      refine q_iast (pc := 27) (j := (gI D a0 1).toNatClampNeg) (LA_9_3 h0 h_a0) hc3 rfl  d_X9_addPart_27 ?_
      refine r_letD (f := (oI Sh)) (fun D4 => ?_)
      refine r_aload_n (pc := 28) 0 d_X9_addPart_28 rfl rfl ?_
      refine r_getR (pc := 29) g_X9_15 (LK_9 h0 h_a0) rfl (LR_9_4 h0 h_a0) d_X9_addPart_29 ?_
      refine r_aload_n (pc := 32) 0 d_X9_addPart_32 rfl rfl ?_
      refine q_gI (pc := 33) g_X9_31 (LK_9 h0 h_a0) rfl d_X9_addPart_33 ?_
      refine r_iload_n (pc := 36) 2 d_X9_addPart_36 rfl rfl ?_
      refine r_ck (f := (oI Sh)) rfl (fun hc5 => ?_)
      refine q_iast (pc := 37) (j := (gI D4 a0 1).toNatClampNeg) (LA_9_4 h0 h_a0) hc5 rfl  d_X9_addPart_37 ?_
      refine r_letD (f := (oI Sh)) (fun D6 => ?_)
      refine r_aload_n (pc := 38) 0 d_X9_addPart_38 rfl rfl ?_
      refine r_dup (pc := 39) d_X9_addPart_39 rfl ?_
      refine q_gI (pc := 40) g_X9_31 (LK_9 h0 h_a0) rfl d_X9_addPart_40 ?_
      refine r_iconst (pc := 43) (1 : Int32) d_X9_addPart_43 rfl ?_
      refine r_iadd (pc := 44) d_X9_addPart_44 ?_
      refine r_putI (pc := 45) p_X9_31 (LK_9 h0 h_a0) rfl (Or.inl rfl) d_X9_addPart_45 ?_
      refine r_letD (f := (oI Sh)) (fun D7 => ?_)
      refine r_aload_n (pc := 48) 0 d_X9_addPart_48 rfl rfl ?_
      refine q_gI (pc := 49) g_X9_31 (LK_9 h0 h_a0) rfl d_X9_addPart_49 ?_
      exact r_iret (pc := 52) rfl d_X9_addPart_52
    · refine r_iconst (pc := 16) (-1 : Int32) d_X9_addPart_16 rfl ?_
      exact r_iret (pc := 17) rfl d_X9_addPart_17
/-! CoveredSigns$Scene.addStanding -/
theorem d_X9_addStanding_0 : decode (yB m_X9_addStanding) 0 = .ok (.aload_n 0, 1) := by decide +kernel
theorem d_X9_addStanding_1 : decode (yB m_X9_addStanding) 1 = .ok (.getfield 34, 3) := by decide +kernel
theorem d_X9_addStanding_4 : decode (yB m_X9_addStanding) 4 = .ok (.ifCond .lt 12, 3) := by decide +kernel
theorem d_X9_addStanding_7 : decode (yB m_X9_addStanding) 7 = .ok (.aload_n 0, 1) := by decide +kernel
theorem d_X9_addStanding_8 : decode (yB m_X9_addStanding) 8 = .ok (.getfield 34, 3) := by decide +kernel
theorem d_X9_addStanding_11 : decode (yB m_X9_addStanding) 11 = .ok (.bipush 8, 2) := by decide +kernel
theorem d_X9_addStanding_13 : decode (yB m_X9_addStanding) 13 = .ok (.if_icmp .lt 5, 3) := by decide +kernel
theorem d_X9_addStanding_16 : decode (yB m_X9_addStanding) 16 = .ok (.iconst (-1), 1) := by decide +kernel
theorem d_X9_addStanding_17 : decode (yB m_X9_addStanding) 17 = .ok (.ireturn, 1) := by decide +kernel
theorem d_X9_addStanding_18 : decode (yB m_X9_addStanding) 18 = .ok (.aload_n 0, 1) := by decide +kernel
theorem d_X9_addStanding_19 : decode (yB m_X9_addStanding) 19 = .ok (.getfield 18, 3) := by decide +kernel
theorem d_X9_addStanding_22 : decode (yB m_X9_addStanding) 22 = .ok (.aload_n 0, 1) := by decide +kernel
theorem d_X9_addStanding_23 : decode (yB m_X9_addStanding) 23 = .ok (.getfield 34, 3) := by decide +kernel
theorem d_X9_addStanding_26 : decode (yB m_X9_addStanding) 26 = .ok (.iload_n 1, 1) := by decide +kernel
theorem d_X9_addStanding_27 : decode (yB m_X9_addStanding) 27 = .ok (.iastore, 1) := by decide +kernel
theorem d_X9_addStanding_28 : decode (yB m_X9_addStanding) 28 = .ok (.aload_n 0, 1) := by decide +kernel
theorem d_X9_addStanding_29 : decode (yB m_X9_addStanding) 29 = .ok (.getfield 21, 3) := by decide +kernel
theorem d_X9_addStanding_32 : decode (yB m_X9_addStanding) 32 = .ok (.aload_n 0, 1) := by decide +kernel
theorem d_X9_addStanding_33 : decode (yB m_X9_addStanding) 33 = .ok (.getfield 34, 3) := by decide +kernel
theorem d_X9_addStanding_36 : decode (yB m_X9_addStanding) 36 = .ok (.iload_n 2, 1) := by decide +kernel
theorem d_X9_addStanding_37 : decode (yB m_X9_addStanding) 37 = .ok (.iastore, 1) := by decide +kernel
theorem d_X9_addStanding_38 : decode (yB m_X9_addStanding) 38 = .ok (.aload_n 0, 1) := by decide +kernel
theorem d_X9_addStanding_39 : decode (yB m_X9_addStanding) 39 = .ok (.getfield 24, 3) := by decide +kernel
theorem d_X9_addStanding_42 : decode (yB m_X9_addStanding) 42 = .ok (.aload_n 0, 1) := by decide +kernel
theorem d_X9_addStanding_43 : decode (yB m_X9_addStanding) 43 = .ok (.getfield 34, 3) := by decide +kernel
theorem d_X9_addStanding_46 : decode (yB m_X9_addStanding) 46 = .ok (.iload_n 3, 1) := by decide +kernel
theorem d_X9_addStanding_47 : decode (yB m_X9_addStanding) 47 = .ok (.iastore, 1) := by decide +kernel
theorem d_X9_addStanding_48 : decode (yB m_X9_addStanding) 48 = .ok (.aload_n 0, 1) := by decide +kernel
theorem d_X9_addStanding_49 : decode (yB m_X9_addStanding) 49 = .ok (.dup, 1) := by decide +kernel
theorem d_X9_addStanding_50 : decode (yB m_X9_addStanding) 50 = .ok (.getfield 34, 3) := by decide +kernel
theorem d_X9_addStanding_53 : decode (yB m_X9_addStanding) 53 = .ok (.iconst 1, 1) := by decide +kernel
theorem d_X9_addStanding_54 : decode (yB m_X9_addStanding) 54 = .ok (.iadd, 1) := by decide +kernel
theorem d_X9_addStanding_55 : decode (yB m_X9_addStanding) 55 = .ok (.putfield 34, 3) := by decide +kernel
theorem d_X9_addStanding_58 : decode (yB m_X9_addStanding) 58 = .ok (.aload_n 0, 1) := by decide +kernel
theorem d_X9_addStanding_59 : decode (yB m_X9_addStanding) 59 = .ok (.getfield 34, 3) := by decide +kernel
theorem d_X9_addStanding_62 : decode (yB m_X9_addStanding) 62 = .ok (.ireturn, 1) := by decide +kernel
def fn_X9_addStanding (a0 : Nat) (v1 : Int32) (v2 : Int32) (v3 : Int32) (D : zD) : Option (Int32 × zD) := (if (gI D a0 2) < 0 then ((some ((-1 : Int32), D))) else ((if (gI D a0 2) < (8 : Int32) then (zck (gI D a0 2) 8 <| zlet (sI D (a0 + 3) (gI D a0 2).toNatClampNeg v1) fun D4 => zck (gI D4 a0 2) 8 <| zlet (sI D4 (a0 + 4) (gI D4 a0 2).toNatClampNeg v2) fun D6 => zck (gI D6 a0 2) 8 <| zlet (sI D6 (a0 + 5) (gI D6 a0 2).toNatClampNeg v3) fun D8 => zlet (sI D8 a0 2 ((gI D8 a0 2) + (1 : Int32))) fun D9 => (some ((gI D9 a0 2), D9))) else ((some ((-1 : Int32), D))))))
theorem s_X9_addStanding {X : zX} {Sh : zSh} {d : Nat} (hst : (zl X).stackTraces = false) (h0 : zSh0 Sh) (hd : 1 ≤ d) {a0 : Nat} {v1 : Int32} {v2 : Int32} {v3 : Int32} (h_a0 : a0 ∈ zI_9) {D : zD} : Sd X m_X9_addStanding d [.ref a0, .int v1, .int v2, .int v3] (Sh, D) ((oI Sh) (fn_X9_addStanding a0 v1 v2 v3 D)) := by
  obtain ⟨d, rfl⟩ : ∃ e, d = e + 1 := ⟨d - 1, by omega⟩
  replace hd : 0 ≤ d := by omega
  refine z_body ck_X9_addStanding rfl (Nat.le_of_ble_eq_true rfl) rfl hst ?_
  rw [fn_X9_addStanding]
  show Rn X m_X9_addStanding (d + 1) 0 [(0, .ref a0), (1, .int v1), (2, .int v2), (3, .int v3)] [] (Sh, D) _
  refine r_aload_n (pc := 0) 0 d_X9_addStanding_0 rfl rfl ?_
  refine q_gI (pc := 1) g_X9_34 (LK_9 h0 h_a0) rfl d_X9_addStanding_1 ?_
  refine r_if_lt (f := (oI Sh)) (pc := 4) 16 d_X9_addStanding_4 (by decide) (fun c1 => ?_) (fun c1 => ?_)
  · refine r_iconst (pc := 16) (-1 : Int32) d_X9_addStanding_16 rfl ?_
    exact r_iret (pc := 17) rfl d_X9_addStanding_17
  · refine r_aload_n (pc := 7) 0 d_X9_addStanding_7 rfl rfl ?_
    refine q_gI (pc := 8) g_X9_34 (LK_9 h0 h_a0) rfl d_X9_addStanding_8 ?_
    refine r_bipush (pc := 11) (8 : Int32) d_X9_addStanding_11 rfl ?_
    refine r_icmp_lt (f := (oI Sh)) (pc := 13) 18 d_X9_addStanding_13 (by decide) (fun c2 => ?_) (fun c2 => ?_)
    · refine r_aload_n (pc := 18) 0 d_X9_addStanding_18 rfl rfl ?_
      refine r_getR (pc := 19) g_X9_18 (LK_9 h0 h_a0) rfl (LR_9_5 h0 h_a0) d_X9_addStanding_19 ?_
      refine r_aload_n (pc := 22) 0 d_X9_addStanding_22 rfl rfl ?_
      refine q_gI (pc := 23) g_X9_34 (LK_9 h0 h_a0) rfl d_X9_addStanding_23 ?_
      refine r_iload_n (pc := 26) 1 d_X9_addStanding_26 rfl rfl ?_
      refine r_ck (f := (oI Sh)) rfl (fun hc3 => ?_)
      refine q_iast (pc := 27) (j := (gI D a0 2).toNatClampNeg) (LA_9_5 h0 h_a0) hc3 rfl  d_X9_addStanding_27 ?_
      refine r_letD (f := (oI Sh)) (fun D4 => ?_)
      refine r_aload_n (pc := 28) 0 d_X9_addStanding_28 rfl rfl ?_
      refine r_getR (pc := 29) g_X9_21 (LK_9 h0 h_a0) rfl (LR_9_6 h0 h_a0) d_X9_addStanding_29 ?_
      refine r_aload_n (pc := 32) 0 d_X9_addStanding_32 rfl rfl ?_
      refine q_gI (pc := 33) g_X9_34 (LK_9 h0 h_a0) rfl d_X9_addStanding_33 ?_
      refine r_iload_n (pc := 36) 2 d_X9_addStanding_36 rfl rfl ?_
      refine r_ck (f := (oI Sh)) rfl (fun hc5 => ?_)
      refine q_iast (pc := 37) (j := (gI D4 a0 2).toNatClampNeg) (LA_9_6 h0 h_a0) hc5 rfl  d_X9_addStanding_37 ?_
      refine r_letD (f := (oI Sh)) (fun D6 => ?_)
      refine r_aload_n (pc := 38) 0 d_X9_addStanding_38 rfl rfl ?_
      refine r_getR (pc := 39) g_X9_24 (LK_9 h0 h_a0) rfl (LR_9_7 h0 h_a0) d_X9_addStanding_39 ?_
      refine r_aload_n (pc := 42) 0 d_X9_addStanding_42 rfl rfl ?_
      refine q_gI (pc := 43) g_X9_34 (LK_9 h0 h_a0) rfl d_X9_addStanding_43 ?_
      refine r_iload_n (pc := 46) 3 d_X9_addStanding_46 rfl rfl ?_
      refine r_ck (f := (oI Sh)) rfl (fun hc7 => ?_)
      refine q_iast (pc := 47) (j := (gI D6 a0 2).toNatClampNeg) (LA_9_7 h0 h_a0) hc7 rfl  d_X9_addStanding_47 ?_
      refine r_letD (f := (oI Sh)) (fun D8 => ?_)
      refine r_aload_n (pc := 48) 0 d_X9_addStanding_48 rfl rfl ?_
      refine r_dup (pc := 49) d_X9_addStanding_49 rfl ?_
      refine q_gI (pc := 50) g_X9_34 (LK_9 h0 h_a0) rfl d_X9_addStanding_50 ?_
      refine r_iconst (pc := 53) (1 : Int32) d_X9_addStanding_53 rfl ?_
      refine r_iadd (pc := 54) d_X9_addStanding_54 ?_
      refine r_putI (pc := 55) p_X9_34 (LK_9 h0 h_a0) rfl (Or.inl rfl) d_X9_addStanding_55 ?_
      refine r_letD (f := (oI Sh)) (fun D9 => ?_)
      refine r_aload_n (pc := 58) 0 d_X9_addStanding_58 rfl rfl ?_
      refine q_gI (pc := 59) g_X9_34 (LK_9 h0 h_a0) rfl d_X9_addStanding_59 ?_
      exact r_iret (pc := 62) rfl d_X9_addStanding_62
    · refine r_iconst (pc := 16) (-1 : Int32) d_X9_addStanding_16 rfl ?_
      exact r_iret (pc := 17) rfl d_X9_addStanding_17
/-! CoveredSigns$Scene.hiddenOf -/
theorem d_X9_hiddenOf_0 : decode (yB m_X9_hiddenOf) 0 = .ok (.iload_n 1, 1) := by decide +kernel
theorem d_X9_hiddenOf_1 : decode (yB m_X9_hiddenOf) 1 = .ok (.ifCond .lt 26, 3) := by decide +kernel
theorem d_X9_hiddenOf_4 : decode (yB m_X9_hiddenOf) 4 = .ok (.iload_n 1, 1) := by decide +kernel
theorem d_X9_hiddenOf_5 : decode (yB m_X9_hiddenOf) 5 = .ok (.aload_n 0, 1) := by decide +kernel
theorem d_X9_hiddenOf_6 : decode (yB m_X9_hiddenOf) 6 = .ok (.getfield 31, 3) := by decide +kernel
theorem d_X9_hiddenOf_9 : decode (yB m_X9_hiddenOf) 9 = .ok (.if_icmp .ge 18, 3) := by decide +kernel
theorem d_X9_hiddenOf_12 : decode (yB m_X9_hiddenOf) 12 = .ok (.iload_n 1, 1) := by decide +kernel
theorem d_X9_hiddenOf_13 : decode (yB m_X9_hiddenOf) 13 = .ok (.bipush 6, 2) := by decide +kernel
theorem d_X9_hiddenOf_15 : decode (yB m_X9_hiddenOf) 15 = .ok (.if_icmp .ge 12, 3) := by decide +kernel
theorem d_X9_hiddenOf_18 : decode (yB m_X9_hiddenOf) 18 = .ok (.aload_n 0, 1) := by decide +kernel
theorem d_X9_hiddenOf_19 : decode (yB m_X9_hiddenOf) 19 = .ok (.getfield 9, 3) := by decide +kernel
theorem d_X9_hiddenOf_22 : decode (yB m_X9_hiddenOf) 22 = .ok (.iload_n 1, 1) := by decide +kernel
theorem d_X9_hiddenOf_23 : decode (yB m_X9_hiddenOf) 23 = .ok (.iaload, 1) := by decide +kernel
theorem d_X9_hiddenOf_24 : decode (yB m_X9_hiddenOf) 24 = .ok (.goto 4, 3) := by decide +kernel
theorem d_X9_hiddenOf_27 : decode (yB m_X9_hiddenOf) 27 = .ok (.iconst 0, 1) := by decide +kernel
theorem d_X9_hiddenOf_28 : decode (yB m_X9_hiddenOf) 28 = .ok (.ireturn, 1) := by decide +kernel
def fn_X9_hiddenOf (a0 : Nat) (v1 : Int32) (D : zD) : Option Int32 := (if v1 < 0 then ((some (0 : Int32))) else ((if (gI D a0 1) ≤ v1 then ((some (0 : Int32))) else ((if (6 : Int32) ≤ v1 then ((some (0 : Int32))) else (zck v1 6 <| (some (gI D (a0 + 1) v1.toNatClampNeg))))))))
theorem s_X9_hiddenOf {X : zX} {Sh : zSh} {d : Nat} (hst : (zl X).stackTraces = false) (h0 : zSh0 Sh) (hd : 1 ≤ d) {a0 : Nat} {v1 : Int32} (h_a0 : a0 ∈ zI_9) {D : zD} : Sd X m_X9_hiddenOf d [.ref a0, .int v1] (Sh, D) ((oP Sh D) (fn_X9_hiddenOf a0 v1 D)) := by
  obtain ⟨d, rfl⟩ : ∃ e, d = e + 1 := ⟨d - 1, by omega⟩
  replace hd : 0 ≤ d := by omega
  refine z_body ck_X9_hiddenOf rfl (Nat.le_of_ble_eq_true rfl) rfl hst ?_
  rw [fn_X9_hiddenOf]
  show Rn X m_X9_hiddenOf (d + 1) 0 [(0, .ref a0), (1, .int v1)] [] (Sh, D) _
  refine r_iload_n (pc := 0) 1 d_X9_hiddenOf_0 rfl rfl ?_
  refine r_if_lt (f := (oP Sh D)) (pc := 1) 27 d_X9_hiddenOf_1 (by decide) (fun c1 => ?_) (fun c1 => ?_)
  · refine r_iconst (pc := 27) (0 : Int32) d_X9_hiddenOf_27 rfl ?_
    exact r_iret (pc := 28) rfl d_X9_hiddenOf_28
  · refine r_iload_n (pc := 4) 1 d_X9_hiddenOf_4 rfl rfl ?_
    refine r_aload_n (pc := 5) 0 d_X9_hiddenOf_5 rfl rfl ?_
    refine q_gI (pc := 6) g_X9_31 (LK_9 h0 h_a0) rfl d_X9_hiddenOf_6 ?_
    refine r_icmp_ge (f := (oP Sh D)) (pc := 9) 27 d_X9_hiddenOf_9 (by decide) (fun c2 => ?_) (fun c2 => ?_)
    · refine r_iconst (pc := 27) (0 : Int32) d_X9_hiddenOf_27 rfl ?_
      exact r_iret (pc := 28) rfl d_X9_hiddenOf_28
    · refine r_iload_n (pc := 12) 1 d_X9_hiddenOf_12 rfl rfl ?_
      refine r_bipush (pc := 13) (6 : Int32) d_X9_hiddenOf_13 rfl ?_
      refine r_icmp_ge (f := (oP Sh D)) (pc := 15) 27 d_X9_hiddenOf_15 (by decide) (fun c3 => ?_) (fun c3 => ?_)
      · refine r_iconst (pc := 27) (0 : Int32) d_X9_hiddenOf_27 rfl ?_
        exact r_iret (pc := 28) rfl d_X9_hiddenOf_28
      · refine r_aload_n (pc := 18) 0 d_X9_hiddenOf_18 rfl rfl ?_
        refine r_getR (pc := 19) g_X9_9 (LK_9 h0 h_a0) rfl (LR_9_3 h0 h_a0) d_X9_hiddenOf_19 ?_
        refine r_iload_n (pc := 22) 1 d_X9_hiddenOf_22 rfl rfl ?_
        refine r_ck (f := (oP Sh D)) rfl (fun hc4 => ?_)
        refine q_iald (pc := 23) (j := v1.toNatClampNeg) (LA_9_3 h0 h_a0) hc4 rfl d_X9_hiddenOf_23 ?_
        refine r_goto (pc := 24) 28 d_X9_hiddenOf_24 (by decide) ?_
        exact r_iret (pc := 28) rfl d_X9_hiddenOf_28
/-! CoveredSigns$Scene.paintOf -/
theorem d_X9_paintOf_0 : decode (yB m_X9_paintOf) 0 = .ok (.iload_n 1, 1) := by decide +kernel
theorem d_X9_paintOf_1 : decode (yB m_X9_paintOf) 1 = .ok (.ifCond .lt 26, 3) := by decide +kernel
theorem d_X9_paintOf_4 : decode (yB m_X9_paintOf) 4 = .ok (.iload_n 1, 1) := by decide +kernel
theorem d_X9_paintOf_5 : decode (yB m_X9_paintOf) 5 = .ok (.aload_n 0, 1) := by decide +kernel
theorem d_X9_paintOf_6 : decode (yB m_X9_paintOf) 6 = .ok (.getfield 31, 3) := by decide +kernel
theorem d_X9_paintOf_9 : decode (yB m_X9_paintOf) 9 = .ok (.if_icmp .ge 18, 3) := by decide +kernel
theorem d_X9_paintOf_12 : decode (yB m_X9_paintOf) 12 = .ok (.iload_n 1, 1) := by decide +kernel
theorem d_X9_paintOf_13 : decode (yB m_X9_paintOf) 13 = .ok (.bipush 6, 2) := by decide +kernel
theorem d_X9_paintOf_15 : decode (yB m_X9_paintOf) 15 = .ok (.if_icmp .ge 12, 3) := by decide +kernel
theorem d_X9_paintOf_18 : decode (yB m_X9_paintOf) 18 = .ok (.aload_n 0, 1) := by decide +kernel
theorem d_X9_paintOf_19 : decode (yB m_X9_paintOf) 19 = .ok (.getfield 15, 3) := by decide +kernel
theorem d_X9_paintOf_22 : decode (yB m_X9_paintOf) 22 = .ok (.iload_n 1, 1) := by decide +kernel
theorem d_X9_paintOf_23 : decode (yB m_X9_paintOf) 23 = .ok (.iaload, 1) := by decide +kernel
theorem d_X9_paintOf_24 : decode (yB m_X9_paintOf) 24 = .ok (.goto 4, 3) := by decide +kernel
theorem d_X9_paintOf_27 : decode (yB m_X9_paintOf) 27 = .ok (.iconst 0, 1) := by decide +kernel
theorem d_X9_paintOf_28 : decode (yB m_X9_paintOf) 28 = .ok (.ireturn, 1) := by decide +kernel
def fn_X9_paintOf (a0 : Nat) (v1 : Int32) (D : zD) : Option Int32 := (if v1 < 0 then ((some (0 : Int32))) else ((if (gI D a0 1) ≤ v1 then ((some (0 : Int32))) else ((if (6 : Int32) ≤ v1 then ((some (0 : Int32))) else (zck v1 6 <| (some (gI D (a0 + 2) v1.toNatClampNeg))))))))
theorem s_X9_paintOf {X : zX} {Sh : zSh} {d : Nat} (hst : (zl X).stackTraces = false) (h0 : zSh0 Sh) (hd : 1 ≤ d) {a0 : Nat} {v1 : Int32} (h_a0 : a0 ∈ zI_9) {D : zD} : Sd X m_X9_paintOf d [.ref a0, .int v1] (Sh, D) ((oP Sh D) (fn_X9_paintOf a0 v1 D)) := by
  obtain ⟨d, rfl⟩ : ∃ e, d = e + 1 := ⟨d - 1, by omega⟩
  replace hd : 0 ≤ d := by omega
  refine z_body ck_X9_paintOf rfl (Nat.le_of_ble_eq_true rfl) rfl hst ?_
  rw [fn_X9_paintOf]
  show Rn X m_X9_paintOf (d + 1) 0 [(0, .ref a0), (1, .int v1)] [] (Sh, D) _
  refine r_iload_n (pc := 0) 1 d_X9_paintOf_0 rfl rfl ?_
  refine r_if_lt (f := (oP Sh D)) (pc := 1) 27 d_X9_paintOf_1 (by decide) (fun c1 => ?_) (fun c1 => ?_)
  · refine r_iconst (pc := 27) (0 : Int32) d_X9_paintOf_27 rfl ?_
    exact r_iret (pc := 28) rfl d_X9_paintOf_28
  · refine r_iload_n (pc := 4) 1 d_X9_paintOf_4 rfl rfl ?_
    refine r_aload_n (pc := 5) 0 d_X9_paintOf_5 rfl rfl ?_
    refine q_gI (pc := 6) g_X9_31 (LK_9 h0 h_a0) rfl d_X9_paintOf_6 ?_
    refine r_icmp_ge (f := (oP Sh D)) (pc := 9) 27 d_X9_paintOf_9 (by decide) (fun c2 => ?_) (fun c2 => ?_)
    · refine r_iconst (pc := 27) (0 : Int32) d_X9_paintOf_27 rfl ?_
      exact r_iret (pc := 28) rfl d_X9_paintOf_28
    · refine r_iload_n (pc := 12) 1 d_X9_paintOf_12 rfl rfl ?_
      refine r_bipush (pc := 13) (6 : Int32) d_X9_paintOf_13 rfl ?_
      refine r_icmp_ge (f := (oP Sh D)) (pc := 15) 27 d_X9_paintOf_15 (by decide) (fun c3 => ?_) (fun c3 => ?_)
      · refine r_iconst (pc := 27) (0 : Int32) d_X9_paintOf_27 rfl ?_
        exact r_iret (pc := 28) rfl d_X9_paintOf_28
      · refine r_aload_n (pc := 18) 0 d_X9_paintOf_18 rfl rfl ?_
        refine r_getR (pc := 19) g_X9_15 (LK_9 h0 h_a0) rfl (LR_9_4 h0 h_a0) d_X9_paintOf_19 ?_
        refine r_iload_n (pc := 22) 1 d_X9_paintOf_22 rfl rfl ?_
        refine r_ck (f := (oP Sh D)) rfl (fun hc4 => ?_)
        refine q_iald (pc := 23) (j := v1.toNatClampNeg) (LA_9_4 h0 h_a0) hc4 rfl d_X9_paintOf_23 ?_
        refine r_goto (pc := 24) 28 d_X9_paintOf_24 (by decide) ?_
        exact r_iret (pc := 28) rfl d_X9_paintOf_28
/-! CoveredSigns$Scene.signOf -/
theorem d_X9_signOf_0 : decode (yB m_X9_signOf) 0 = .ok (.iload_n 1, 1) := by decide +kernel
theorem d_X9_signOf_1 : decode (yB m_X9_signOf) 1 = .ok (.ifCond .lt 26, 3) := by decide +kernel
theorem d_X9_signOf_4 : decode (yB m_X9_signOf) 4 = .ok (.iload_n 1, 1) := by decide +kernel
theorem d_X9_signOf_5 : decode (yB m_X9_signOf) 5 = .ok (.aload_n 0, 1) := by decide +kernel
theorem d_X9_signOf_6 : decode (yB m_X9_signOf) 6 = .ok (.getfield 34, 3) := by decide +kernel
theorem d_X9_signOf_9 : decode (yB m_X9_signOf) 9 = .ok (.if_icmp .ge 18, 3) := by decide +kernel
theorem d_X9_signOf_12 : decode (yB m_X9_signOf) 12 = .ok (.iload_n 1, 1) := by decide +kernel
theorem d_X9_signOf_13 : decode (yB m_X9_signOf) 13 = .ok (.bipush 8, 2) := by decide +kernel
theorem d_X9_signOf_15 : decode (yB m_X9_signOf) 15 = .ok (.if_icmp .ge 12, 3) := by decide +kernel
theorem d_X9_signOf_18 : decode (yB m_X9_signOf) 18 = .ok (.aload_n 0, 1) := by decide +kernel
theorem d_X9_signOf_19 : decode (yB m_X9_signOf) 19 = .ok (.getfield 18, 3) := by decide +kernel
theorem d_X9_signOf_22 : decode (yB m_X9_signOf) 22 = .ok (.iload_n 1, 1) := by decide +kernel
theorem d_X9_signOf_23 : decode (yB m_X9_signOf) 23 = .ok (.iaload, 1) := by decide +kernel
theorem d_X9_signOf_24 : decode (yB m_X9_signOf) 24 = .ok (.goto 4, 3) := by decide +kernel
theorem d_X9_signOf_27 : decode (yB m_X9_signOf) 27 = .ok (.iconst (-1), 1) := by decide +kernel
theorem d_X9_signOf_28 : decode (yB m_X9_signOf) 28 = .ok (.ireturn, 1) := by decide +kernel
def fn_X9_signOf (a0 : Nat) (v1 : Int32) (D : zD) : Option Int32 := (if v1 < 0 then ((some (-1 : Int32))) else ((if (gI D a0 2) ≤ v1 then ((some (-1 : Int32))) else ((if (8 : Int32) ≤ v1 then ((some (-1 : Int32))) else (zck v1 8 <| (some (gI D (a0 + 3) v1.toNatClampNeg))))))))
theorem s_X9_signOf {X : zX} {Sh : zSh} {d : Nat} (hst : (zl X).stackTraces = false) (h0 : zSh0 Sh) (hd : 1 ≤ d) {a0 : Nat} {v1 : Int32} (h_a0 : a0 ∈ zI_9) {D : zD} : Sd X m_X9_signOf d [.ref a0, .int v1] (Sh, D) ((oP Sh D) (fn_X9_signOf a0 v1 D)) := by
  obtain ⟨d, rfl⟩ : ∃ e, d = e + 1 := ⟨d - 1, by omega⟩
  replace hd : 0 ≤ d := by omega
  refine z_body ck_X9_signOf rfl (Nat.le_of_ble_eq_true rfl) rfl hst ?_
  rw [fn_X9_signOf]
  show Rn X m_X9_signOf (d + 1) 0 [(0, .ref a0), (1, .int v1)] [] (Sh, D) _
  refine r_iload_n (pc := 0) 1 d_X9_signOf_0 rfl rfl ?_
  refine r_if_lt (f := (oP Sh D)) (pc := 1) 27 d_X9_signOf_1 (by decide) (fun c1 => ?_) (fun c1 => ?_)
  · refine r_iconst (pc := 27) (-1 : Int32) d_X9_signOf_27 rfl ?_
    exact r_iret (pc := 28) rfl d_X9_signOf_28
  · refine r_iload_n (pc := 4) 1 d_X9_signOf_4 rfl rfl ?_
    refine r_aload_n (pc := 5) 0 d_X9_signOf_5 rfl rfl ?_
    refine q_gI (pc := 6) g_X9_34 (LK_9 h0 h_a0) rfl d_X9_signOf_6 ?_
    refine r_icmp_ge (f := (oP Sh D)) (pc := 9) 27 d_X9_signOf_9 (by decide) (fun c2 => ?_) (fun c2 => ?_)
    · refine r_iconst (pc := 27) (-1 : Int32) d_X9_signOf_27 rfl ?_
      exact r_iret (pc := 28) rfl d_X9_signOf_28
    · refine r_iload_n (pc := 12) 1 d_X9_signOf_12 rfl rfl ?_
      refine r_bipush (pc := 13) (8 : Int32) d_X9_signOf_13 rfl ?_
      refine r_icmp_ge (f := (oP Sh D)) (pc := 15) 27 d_X9_signOf_15 (by decide) (fun c3 => ?_) (fun c3 => ?_)
      · refine r_iconst (pc := 27) (-1 : Int32) d_X9_signOf_27 rfl ?_
        exact r_iret (pc := 28) rfl d_X9_signOf_28
      · refine r_aload_n (pc := 18) 0 d_X9_signOf_18 rfl rfl ?_
        refine r_getR (pc := 19) g_X9_18 (LK_9 h0 h_a0) rfl (LR_9_5 h0 h_a0) d_X9_signOf_19 ?_
        refine r_iload_n (pc := 22) 1 d_X9_signOf_22 rfl rfl ?_
        refine r_ck (f := (oP Sh D)) rfl (fun hc4 => ?_)
        refine q_iald (pc := 23) (j := v1.toNatClampNeg) (LA_9_5 h0 h_a0) hc4 rfl d_X9_signOf_23 ?_
        refine r_goto (pc := 24) 28 d_X9_signOf_24 (by decide) ?_
        exact r_iret (pc := 28) rfl d_X9_signOf_28
/-! CoveredSigns$Scene.leftOf -/
theorem d_X9_leftOf_0 : decode (yB m_X9_leftOf) 0 = .ok (.iload_n 1, 1) := by decide +kernel
theorem d_X9_leftOf_1 : decode (yB m_X9_leftOf) 1 = .ok (.ifCond .lt 26, 3) := by decide +kernel
theorem d_X9_leftOf_4 : decode (yB m_X9_leftOf) 4 = .ok (.iload_n 1, 1) := by decide +kernel
theorem d_X9_leftOf_5 : decode (yB m_X9_leftOf) 5 = .ok (.aload_n 0, 1) := by decide +kernel
theorem d_X9_leftOf_6 : decode (yB m_X9_leftOf) 6 = .ok (.getfield 34, 3) := by decide +kernel
theorem d_X9_leftOf_9 : decode (yB m_X9_leftOf) 9 = .ok (.if_icmp .ge 18, 3) := by decide +kernel
theorem d_X9_leftOf_12 : decode (yB m_X9_leftOf) 12 = .ok (.iload_n 1, 1) := by decide +kernel
theorem d_X9_leftOf_13 : decode (yB m_X9_leftOf) 13 = .ok (.bipush 8, 2) := by decide +kernel
theorem d_X9_leftOf_15 : decode (yB m_X9_leftOf) 15 = .ok (.if_icmp .ge 12, 3) := by decide +kernel
theorem d_X9_leftOf_18 : decode (yB m_X9_leftOf) 18 = .ok (.aload_n 0, 1) := by decide +kernel
theorem d_X9_leftOf_19 : decode (yB m_X9_leftOf) 19 = .ok (.getfield 21, 3) := by decide +kernel
theorem d_X9_leftOf_22 : decode (yB m_X9_leftOf) 22 = .ok (.iload_n 1, 1) := by decide +kernel
theorem d_X9_leftOf_23 : decode (yB m_X9_leftOf) 23 = .ok (.iaload, 1) := by decide +kernel
theorem d_X9_leftOf_24 : decode (yB m_X9_leftOf) 24 = .ok (.goto 4, 3) := by decide +kernel
theorem d_X9_leftOf_27 : decode (yB m_X9_leftOf) 27 = .ok (.iconst 0, 1) := by decide +kernel
theorem d_X9_leftOf_28 : decode (yB m_X9_leftOf) 28 = .ok (.ireturn, 1) := by decide +kernel
def fn_X9_leftOf (a0 : Nat) (v1 : Int32) (D : zD) : Option Int32 := (if v1 < 0 then ((some (0 : Int32))) else ((if (gI D a0 2) ≤ v1 then ((some (0 : Int32))) else ((if (8 : Int32) ≤ v1 then ((some (0 : Int32))) else (zck v1 8 <| (some (gI D (a0 + 4) v1.toNatClampNeg))))))))
theorem s_X9_leftOf {X : zX} {Sh : zSh} {d : Nat} (hst : (zl X).stackTraces = false) (h0 : zSh0 Sh) (hd : 1 ≤ d) {a0 : Nat} {v1 : Int32} (h_a0 : a0 ∈ zI_9) {D : zD} : Sd X m_X9_leftOf d [.ref a0, .int v1] (Sh, D) ((oP Sh D) (fn_X9_leftOf a0 v1 D)) := by
  obtain ⟨d, rfl⟩ : ∃ e, d = e + 1 := ⟨d - 1, by omega⟩
  replace hd : 0 ≤ d := by omega
  refine z_body ck_X9_leftOf rfl (Nat.le_of_ble_eq_true rfl) rfl hst ?_
  rw [fn_X9_leftOf]
  show Rn X m_X9_leftOf (d + 1) 0 [(0, .ref a0), (1, .int v1)] [] (Sh, D) _
  refine r_iload_n (pc := 0) 1 d_X9_leftOf_0 rfl rfl ?_
  refine r_if_lt (f := (oP Sh D)) (pc := 1) 27 d_X9_leftOf_1 (by decide) (fun c1 => ?_) (fun c1 => ?_)
  · refine r_iconst (pc := 27) (0 : Int32) d_X9_leftOf_27 rfl ?_
    exact r_iret (pc := 28) rfl d_X9_leftOf_28
  · refine r_iload_n (pc := 4) 1 d_X9_leftOf_4 rfl rfl ?_
    refine r_aload_n (pc := 5) 0 d_X9_leftOf_5 rfl rfl ?_
    refine q_gI (pc := 6) g_X9_34 (LK_9 h0 h_a0) rfl d_X9_leftOf_6 ?_
    refine r_icmp_ge (f := (oP Sh D)) (pc := 9) 27 d_X9_leftOf_9 (by decide) (fun c2 => ?_) (fun c2 => ?_)
    · refine r_iconst (pc := 27) (0 : Int32) d_X9_leftOf_27 rfl ?_
      exact r_iret (pc := 28) rfl d_X9_leftOf_28
    · refine r_iload_n (pc := 12) 1 d_X9_leftOf_12 rfl rfl ?_
      refine r_bipush (pc := 13) (8 : Int32) d_X9_leftOf_13 rfl ?_
      refine r_icmp_ge (f := (oP Sh D)) (pc := 15) 27 d_X9_leftOf_15 (by decide) (fun c3 => ?_) (fun c3 => ?_)
      · refine r_iconst (pc := 27) (0 : Int32) d_X9_leftOf_27 rfl ?_
        exact r_iret (pc := 28) rfl d_X9_leftOf_28
      · refine r_aload_n (pc := 18) 0 d_X9_leftOf_18 rfl rfl ?_
        refine r_getR (pc := 19) g_X9_21 (LK_9 h0 h_a0) rfl (LR_9_6 h0 h_a0) d_X9_leftOf_19 ?_
        refine r_iload_n (pc := 22) 1 d_X9_leftOf_22 rfl rfl ?_
        refine r_ck (f := (oP Sh D)) rfl (fun hc4 => ?_)
        refine q_iald (pc := 23) (j := v1.toNatClampNeg) (LA_9_6 h0 h_a0) hc4 rfl d_X9_leftOf_23 ?_
        refine r_goto (pc := 24) 28 d_X9_leftOf_24 (by decide) ?_
        exact r_iret (pc := 28) rfl d_X9_leftOf_28
/-! CoveredSigns$Scene.farOf -/
theorem d_X9_farOf_0 : decode (yB m_X9_farOf) 0 = .ok (.iload_n 1, 1) := by decide +kernel
theorem d_X9_farOf_1 : decode (yB m_X9_farOf) 1 = .ok (.ifCond .lt 26, 3) := by decide +kernel
theorem d_X9_farOf_4 : decode (yB m_X9_farOf) 4 = .ok (.iload_n 1, 1) := by decide +kernel
theorem d_X9_farOf_5 : decode (yB m_X9_farOf) 5 = .ok (.aload_n 0, 1) := by decide +kernel
theorem d_X9_farOf_6 : decode (yB m_X9_farOf) 6 = .ok (.getfield 34, 3) := by decide +kernel
theorem d_X9_farOf_9 : decode (yB m_X9_farOf) 9 = .ok (.if_icmp .ge 18, 3) := by decide +kernel
theorem d_X9_farOf_12 : decode (yB m_X9_farOf) 12 = .ok (.iload_n 1, 1) := by decide +kernel
theorem d_X9_farOf_13 : decode (yB m_X9_farOf) 13 = .ok (.bipush 8, 2) := by decide +kernel
theorem d_X9_farOf_15 : decode (yB m_X9_farOf) 15 = .ok (.if_icmp .ge 12, 3) := by decide +kernel
theorem d_X9_farOf_18 : decode (yB m_X9_farOf) 18 = .ok (.aload_n 0, 1) := by decide +kernel
theorem d_X9_farOf_19 : decode (yB m_X9_farOf) 19 = .ok (.getfield 24, 3) := by decide +kernel
theorem d_X9_farOf_22 : decode (yB m_X9_farOf) 22 = .ok (.iload_n 1, 1) := by decide +kernel
theorem d_X9_farOf_23 : decode (yB m_X9_farOf) 23 = .ok (.iaload, 1) := by decide +kernel
theorem d_X9_farOf_24 : decode (yB m_X9_farOf) 24 = .ok (.goto 4, 3) := by decide +kernel
theorem d_X9_farOf_27 : decode (yB m_X9_farOf) 27 = .ok (.iconst 1, 1) := by decide +kernel
theorem d_X9_farOf_28 : decode (yB m_X9_farOf) 28 = .ok (.ireturn, 1) := by decide +kernel
def fn_X9_farOf (a0 : Nat) (v1 : Int32) (D : zD) : Option Int32 := (if v1 < 0 then ((some (1 : Int32))) else ((if (gI D a0 2) ≤ v1 then ((some (1 : Int32))) else ((if (8 : Int32) ≤ v1 then ((some (1 : Int32))) else (zck v1 8 <| (some (gI D (a0 + 5) v1.toNatClampNeg))))))))
theorem s_X9_farOf {X : zX} {Sh : zSh} {d : Nat} (hst : (zl X).stackTraces = false) (h0 : zSh0 Sh) (hd : 1 ≤ d) {a0 : Nat} {v1 : Int32} (h_a0 : a0 ∈ zI_9) {D : zD} : Sd X m_X9_farOf d [.ref a0, .int v1] (Sh, D) ((oP Sh D) (fn_X9_farOf a0 v1 D)) := by
  obtain ⟨d, rfl⟩ : ∃ e, d = e + 1 := ⟨d - 1, by omega⟩
  replace hd : 0 ≤ d := by omega
  refine z_body ck_X9_farOf rfl (Nat.le_of_ble_eq_true rfl) rfl hst ?_
  rw [fn_X9_farOf]
  show Rn X m_X9_farOf (d + 1) 0 [(0, .ref a0), (1, .int v1)] [] (Sh, D) _
  refine r_iload_n (pc := 0) 1 d_X9_farOf_0 rfl rfl ?_
  refine r_if_lt (f := (oP Sh D)) (pc := 1) 27 d_X9_farOf_1 (by decide) (fun c1 => ?_) (fun c1 => ?_)
  · refine r_iconst (pc := 27) (1 : Int32) d_X9_farOf_27 rfl ?_
    exact r_iret (pc := 28) rfl d_X9_farOf_28
  · refine r_iload_n (pc := 4) 1 d_X9_farOf_4 rfl rfl ?_
    refine r_aload_n (pc := 5) 0 d_X9_farOf_5 rfl rfl ?_
    refine q_gI (pc := 6) g_X9_34 (LK_9 h0 h_a0) rfl d_X9_farOf_6 ?_
    refine r_icmp_ge (f := (oP Sh D)) (pc := 9) 27 d_X9_farOf_9 (by decide) (fun c2 => ?_) (fun c2 => ?_)
    · refine r_iconst (pc := 27) (1 : Int32) d_X9_farOf_27 rfl ?_
      exact r_iret (pc := 28) rfl d_X9_farOf_28
    · refine r_iload_n (pc := 12) 1 d_X9_farOf_12 rfl rfl ?_
      refine r_bipush (pc := 13) (8 : Int32) d_X9_farOf_13 rfl ?_
      refine r_icmp_ge (f := (oP Sh D)) (pc := 15) 27 d_X9_farOf_15 (by decide) (fun c3 => ?_) (fun c3 => ?_)
      · refine r_iconst (pc := 27) (1 : Int32) d_X9_farOf_27 rfl ?_
        exact r_iret (pc := 28) rfl d_X9_farOf_28
      · refine r_aload_n (pc := 18) 0 d_X9_farOf_18 rfl rfl ?_
        refine r_getR (pc := 19) g_X9_24 (LK_9 h0 h_a0) rfl (LR_9_7 h0 h_a0) d_X9_farOf_19 ?_
        refine r_iload_n (pc := 22) 1 d_X9_farOf_22 rfl rfl ?_
        refine r_ck (f := (oP Sh D)) rfl (fun hc4 => ?_)
        refine q_iald (pc := 23) (j := v1.toNatClampNeg) (LA_9_7 h0 h_a0) hc4 rfl d_X9_farOf_23 ?_
        refine r_goto (pc := 24) 28 d_X9_farOf_24 (by decide) ?_
        exact r_iret (pc := 28) rfl d_X9_farOf_28

