/-! CoveredSigns$AlphabetText.result -/
theorem d_X1_result_0 : decode (yB m_X1_result) 0 = .ok (.aload_n 0, 1) := by decide +kernel
theorem d_X1_result_1 : decode (yB m_X1_result) 1 = .ok (.getfield 12, 3) := by decide +kernel
theorem d_X1_result_4 : decode (yB m_X1_result) 4 = .ok (.areturn, 1) := by decide +kernel
def fn_X1_result (D : zD) : Option Nat := (some 12)
theorem s_X1_result {X : zX} {Sh : zSh} {d : Nat} (hst : (zl X).stackTraces = false) (h0 : zSh0 Sh) (hd : 1 ≤ d)  {D : zD} : Sd X m_X1_result d [.ref 11] (Sh, D) ((oA Sh D) (fn_X1_result D)) := by
  obtain ⟨d, rfl⟩ : ∃ e, d = e + 1 := ⟨d - 1, by omega⟩
  replace hd : 0 ≤ d := by omega
  refine z_body ck_X1_result rfl (Nat.le_of_ble_eq_true rfl) rfl hst ?_
  rw [fn_X1_result]
  show Rn X m_X1_result (d + 1) 0 [(0, .ref 11)] [] (Sh, D) _
  refine r_aload_n (pc := 0) 0 d_X1_result_0 rfl rfl ?_
  refine r_getR (pc := 1) g_X1_12 (K_11 h0) rfl (R_11_1 h0) d_X1_result_1 ?_
  exact r_aret (pc := 4) rfl (Or.inl ⟨_, rfl⟩) d_X1_result_4
theorem al_X1_result {D : zD} {o : Nat} (h : fn_X1_result D = some o) : o ∈ zI_0 := by
  cases h; exact I_12
/-! CoveredSigns$AlphabetText.clean -/
theorem d_X1_clean_0 : decode (yB m_X1_clean) 0 = .ok (.aload_n 0, 1) := by decide +kernel
theorem d_X1_clean_1 : decode (yB m_X1_clean) 1 = .ok (.getfield 18, 3) := by decide +kernel
theorem d_X1_clean_4 : decode (yB m_X1_clean) 4 = .ok (.iconst 0, 1) := by decide +kernel
theorem d_X1_clean_5 : decode (yB m_X1_clean) 5 = .ok (.aload_n 0, 1) := by decide +kernel
theorem d_X1_clean_6 : decode (yB m_X1_clean) 6 = .ok (.getfield 12, 3) := by decide +kernel
theorem d_X1_clean_9 : decode (yB m_X1_clean) 9 = .ok (.getfield 105, 3) := by decide +kernel
theorem d_X1_clean_12 : decode (yB m_X1_clean) 12 = .ok (.iconst 1, 1) := by decide +kernel
theorem d_X1_clean_13 : decode (yB m_X1_clean) 13 = .ok (.isub, 1) := by decide +kernel
theorem d_X1_clean_14 : decode (yB m_X1_clean) 14 = .ok (.invokevirtual 101, 3) := by decide +kernel
theorem d_X1_clean_17 : decode (yB m_X1_clean) 17 = .ok (.istore_n 1, 1) := by decide +kernel
theorem d_X1_clean_18 : decode (yB m_X1_clean) 18 = .ok (.iload_n 1, 1) := by decide +kernel
theorem d_X1_clean_19 : decode (yB m_X1_clean) 19 = .ok (.iconst (-1), 1) := by decide +kernel
theorem d_X1_clean_20 : decode (yB m_X1_clean) 20 = .ok (.if_icmp .ne 5, 3) := by decide +kernel
theorem d_X1_clean_23 : decode (yB m_X1_clean) 23 = .ok (.iconst 0, 1) := by decide +kernel
theorem d_X1_clean_24 : decode (yB m_X1_clean) 24 = .ok (.ireturn, 1) := by decide +kernel
theorem d_X1_clean_25 : decode (yB m_X1_clean) 25 = .ok (.aload_n 0, 1) := by decide +kernel
theorem d_X1_clean_26 : decode (yB m_X1_clean) 26 = .ok (.getfield 18, 3) := by decide +kernel
theorem d_X1_clean_29 : decode (yB m_X1_clean) 29 = .ok (.iconst 0, 1) := by decide +kernel
theorem d_X1_clean_30 : decode (yB m_X1_clean) 30 = .ok (.aload_n 0, 1) := by decide +kernel
theorem d_X1_clean_31 : decode (yB m_X1_clean) 31 = .ok (.getfield 12, 3) := by decide +kernel
theorem d_X1_clean_34 : decode (yB m_X1_clean) 34 = .ok (.getfield 108, 3) := by decide +kernel
theorem d_X1_clean_37 : decode (yB m_X1_clean) 37 = .ok (.iconst 1, 1) := by decide +kernel
theorem d_X1_clean_38 : decode (yB m_X1_clean) 38 = .ok (.isub, 1) := by decide +kernel
theorem d_X1_clean_39 : decode (yB m_X1_clean) 39 = .ok (.invokevirtual 101, 3) := by decide +kernel
theorem d_X1_clean_42 : decode (yB m_X1_clean) 42 = .ok (.istore_n 2, 1) := by decide +kernel
theorem d_X1_clean_43 : decode (yB m_X1_clean) 43 = .ok (.iload_n 2, 1) := by decide +kernel
theorem d_X1_clean_44 : decode (yB m_X1_clean) 44 = .ok (.iconst (-1), 1) := by decide +kernel
theorem d_X1_clean_45 : decode (yB m_X1_clean) 45 = .ok (.if_icmp .ne 5, 3) := by decide +kernel
theorem d_X1_clean_48 : decode (yB m_X1_clean) 48 = .ok (.iconst 0, 1) := by decide +kernel
theorem d_X1_clean_49 : decode (yB m_X1_clean) 49 = .ok (.ireturn, 1) := by decide +kernel
theorem d_X1_clean_50 : decode (yB m_X1_clean) 50 = .ok (.aload_n 0, 1) := by decide +kernel
theorem d_X1_clean_51 : decode (yB m_X1_clean) 51 = .ok (.getfield 12, 3) := by decide +kernel
theorem d_X1_clean_54 : decode (yB m_X1_clean) 54 = .ok (.aload_n 0, 1) := by decide +kernel
theorem d_X1_clean_55 : decode (yB m_X1_clean) 55 = .ok (.getfield 12, 3) := by decide +kernel
theorem d_X1_clean_58 : decode (yB m_X1_clean) 58 = .ok (.aload_n 0, 1) := by decide +kernel
theorem d_X1_clean_59 : decode (yB m_X1_clean) 59 = .ok (.getfield 12, 3) := by decide +kernel
theorem d_X1_clean_62 : decode (yB m_X1_clean) 62 = .ok (.getfield 97, 3) := by decide +kernel
theorem d_X1_clean_65 : decode (yB m_X1_clean) 65 = .ok (.iconst 1, 1) := by decide +kernel
theorem d_X1_clean_66 : decode (yB m_X1_clean) 66 = .ok (.isub, 1) := by decide +kernel
theorem d_X1_clean_67 : decode (yB m_X1_clean) 67 = .ok (.invokevirtual 111, 3) := by decide +kernel
theorem d_X1_clean_70 : decode (yB m_X1_clean) 70 = .ok (.iconst 1, 1) := by decide +kernel
theorem d_X1_clean_71 : decode (yB m_X1_clean) 71 = .ok (.aload_n 0, 1) := by decide +kernel
theorem d_X1_clean_72 : decode (yB m_X1_clean) 72 = .ok (.getfield 12, 3) := by decide +kernel
theorem d_X1_clean_75 : decode (yB m_X1_clean) 75 = .ok (.getfield 105, 3) := by decide +kernel
theorem d_X1_clean_78 : decode (yB m_X1_clean) 78 = .ok (.iload_n 2, 1) := by decide +kernel
theorem d_X1_clean_79 : decode (yB m_X1_clean) 79 = .ok (.imul, 1) := by decide +kernel
theorem d_X1_clean_80 : decode (yB m_X1_clean) 80 = .ok (.iload_n 1, 1) := by decide +kernel
theorem d_X1_clean_81 : decode (yB m_X1_clean) 81 = .ok (.iadd, 1) := by decide +kernel
theorem d_X1_clean_82 : decode (yB m_X1_clean) 82 = .ok (.ishl, 1) := by decide +kernel
theorem d_X1_clean_83 : decode (yB m_X1_clean) 83 = .ok (.iconst (-1), 1) := by decide +kernel
theorem d_X1_clean_84 : decode (yB m_X1_clean) 84 = .ok (.ixor, 1) := by decide +kernel
theorem d_X1_clean_85 : decode (yB m_X1_clean) 85 = .ok (.iand, 1) := by decide +kernel
theorem d_X1_clean_86 : decode (yB m_X1_clean) 86 = .ok (.invokevirtual 115, 3) := by decide +kernel
theorem d_X1_clean_89 : decode (yB m_X1_clean) 89 = .ok (.iconst 1, 1) := by decide +kernel
theorem d_X1_clean_90 : decode (yB m_X1_clean) 90 = .ok (.ireturn, 1) := by decide +kernel
def fn_X1_clean (D : zD) : Option (Int32 × zD) := (fn_X8_number (0 : Int32) ((gI D 12 0) - (1 : Int32)) D).bind fun q1 => (if q1.1 = (-1 : Int32) then ((some ((0 : Int32), q1.2))) else ((fn_X8_number (0 : Int32) ((gI q1.2 12 1) - (1 : Int32)) q1.2).bind fun q3 => (if q3.1 = (-1 : Int32) then ((some ((0 : Int32), q3.2))) else ((fn_X0_paintOf 12 ((gI q3.2 12 2) - (1 : Int32)) q3.2).bind fun x5 => (fn_X0_setLatest 12 (x5 &&& (((1 : Int32) <<< ((((gI q3.2 12 0) * q3.1) + q1.1) &&& 31)) ^^^ (-1 : Int32))) q3.2).bind fun D6 => (some ((1 : Int32), D6))))))
theorem s_X1_clean {X : zX} {Sh : zSh} {d : Nat} (hst : (zl X).stackTraces = false) (h0 : zSh0 Sh) (hd : 3 ≤ d)  {D : zD} : Sd X m_X1_clean d [.ref 11] (Sh, D) ((oI Sh) (fn_X1_clean D)) := by
  obtain ⟨d, rfl⟩ : ∃ e, d = e + 1 := ⟨d - 1, by omega⟩
  replace hd : 2 ≤ d := by omega
  refine z_body ck_X1_clean rfl (Nat.le_of_ble_eq_true rfl) rfl hst ?_
  rw [fn_X1_clean]
  show Rn X m_X1_clean (d + 1) 0 [(0, .ref 11)] [] (Sh, D) _
  refine r_aload_n (pc := 0) 0 d_X1_clean_0 rfl rfl ?_
  refine r_getR (pc := 1) g_X1_18 (K_11 h0) rfl (R_11_0 h0) d_X1_clean_1 ?_
  refine r_iconst (pc := 4) (0 : Int32) d_X1_clean_4 rfl ?_
  refine r_aload_n (pc := 5) 0 d_X1_clean_5 rfl rfl ?_
  refine r_getR (pc := 6) g_X1_12 (K_11 h0) rfl (R_11_1 h0) d_X1_clean_6 ?_
  refine q_gIn (pc := 9) g_X1_105 (K_12 h0) rfl d_X1_clean_9 ?_
  refine r_iconst (pc := 12) (1 : Int32) d_X1_clean_12 rfl ?_
  refine r_isub (pc := 13) d_X1_clean_13 ?_
  refine q_cI (f := (oI Sh)) (av := [.ref 2, .int (0 : Int32), .int ((gI D 12 0) - (1 : Int32))]) (st := []) (z_runV ck_X8_number rfl ml_X1_101 ci_X8_number cv_X8_number (K_2 h0) (ci := 8) rfl rfl (Nat.le_of_ble_eq_true rfl) d_X1_clean_14) (s_X8_number hst h0 (by omega)) kp_I (fun q1 _ => ?_)
  refine r_istore_n (pc := 17) (ls' := [(1, .int q1.1), (0, .ref 11)]) d_X1_clean_17 rfl (Nat.le_of_ble_eq_true rfl) rfl ?_
  refine r_iload_n (pc := 18) 0 d_X1_clean_18 rfl rfl ?_
  refine r_iconst (pc := 19) (-1 : Int32) d_X1_clean_19 rfl ?_
  refine r_icmp_ne (f := (oI Sh)) (pc := 20) 25 d_X1_clean_20 (by decide) (fun c2 => ?_) (fun c2 => ?_)
  · refine r_aload_n (pc := 25) 1 d_X1_clean_25 rfl rfl ?_
    refine r_getR (pc := 26) g_X1_18 (K_11 h0) rfl (R_11_0 h0) d_X1_clean_26 ?_
    refine r_iconst (pc := 29) (0 : Int32) d_X1_clean_29 rfl ?_
    refine r_aload_n (pc := 30) 1 d_X1_clean_30 rfl rfl ?_
    refine r_getR (pc := 31) g_X1_12 (K_11 h0) rfl (R_11_1 h0) d_X1_clean_31 ?_
    refine q_gIn (pc := 34) g_X1_108 (K_12 h0) rfl d_X1_clean_34 ?_
    refine r_iconst (pc := 37) (1 : Int32) d_X1_clean_37 rfl ?_
    refine r_isub (pc := 38) d_X1_clean_38 ?_
    refine q_cI (f := (oI Sh)) (av := [.ref 2, .int (0 : Int32), .int ((gI q1.2 12 1) - (1 : Int32))]) (st := []) (z_runV ck_X8_number rfl ml_X1_101 ci_X8_number cv_X8_number (K_2 h0) (ci := 8) rfl rfl (Nat.le_of_ble_eq_true rfl) d_X1_clean_39) (s_X8_number hst h0 (by omega)) kp_I (fun q3 _ => ?_)
    refine r_istore_n (pc := 42) (ls' := [(2, .int q3.1), (1, .int q1.1), (0, .ref 11)]) d_X1_clean_42 rfl (Nat.le_of_ble_eq_true rfl) rfl ?_
    refine r_iload_n (pc := 43) 0 d_X1_clean_43 rfl rfl ?_
    refine r_iconst (pc := 44) (-1 : Int32) d_X1_clean_44 rfl ?_
    refine r_icmp_ne (f := (oI Sh)) (pc := 45) 50 d_X1_clean_45 (by decide) (fun c4 => ?_) (fun c4 => ?_)
    · refine r_aload_n (pc := 50) 2 d_X1_clean_50 rfl rfl ?_
      refine r_getR (pc := 51) g_X1_12 (K_11 h0) rfl (R_11_1 h0) d_X1_clean_51 ?_
      refine r_aload_n (pc := 54) 2 d_X1_clean_54 rfl rfl ?_
      refine r_getR (pc := 55) g_X1_12 (K_11 h0) rfl (R_11_1 h0) d_X1_clean_55 ?_
      refine r_aload_n (pc := 58) 2 d_X1_clean_58 rfl rfl ?_
      refine r_getR (pc := 59) g_X1_12 (K_11 h0) rfl (R_11_1 h0) d_X1_clean_59 ?_
      refine q_gIn (pc := 62) g_X1_97 (K_12 h0) rfl d_X1_clean_62 ?_
      refine r_iconst (pc := 65) (1 : Int32) d_X1_clean_65 rfl ?_
      refine r_isub (pc := 66) d_X1_clean_66 ?_
      refine q_cP (f := (oI Sh)) (av := [.ref 12, .int ((gI q3.2 12 2) - (1 : Int32))]) (st := [.ref 12]) (z_runV ck_X0_paintOf rfl ml_X1_111 ci_X0_paintOf cv_X0_paintOf (K_12 h0) (ci := 0) rfl rfl (Nat.le_of_ble_eq_true rfl) d_X1_clean_67) (s_X0_paintOf hst h0 (by omega) (I_12)) kp_I (fun x5 _ => ?_)
      refine r_iconst (pc := 70) (1 : Int32) d_X1_clean_70 rfl ?_
      refine r_aload_n (pc := 71) 2 d_X1_clean_71 rfl rfl ?_
      refine r_getR (pc := 72) g_X1_12 (K_11 h0) rfl (R_11_1 h0) d_X1_clean_72 ?_
      refine q_gIn (pc := 75) g_X1_105 (K_12 h0) rfl d_X1_clean_75 ?_
      refine r_iload_n (pc := 78) 0 d_X1_clean_78 rfl rfl ?_
      refine r_imul (pc := 79) d_X1_clean_79 ?_
      refine r_iload_n (pc := 80) 1 d_X1_clean_80 rfl rfl ?_
      refine r_iadd (pc := 81) d_X1_clean_81 ?_
      refine r_ishl (pc := 82) d_X1_clean_82 ?_
      refine r_iconst (pc := 83) (-1 : Int32) d_X1_clean_83 rfl ?_
      refine r_ixor (pc := 84) d_X1_clean_84 ?_
      refine r_iand (pc := 85) d_X1_clean_85 ?_
      refine q_cV (f := (oI Sh)) (av := [.ref 12, .int (x5 &&& (((1 : Int32) <<< ((((gI q3.2 12 0) * q3.1) + q1.1) &&& 31)) ^^^ (-1 : Int32)))]) (st := []) (z_runV ck_X0_setLatest rfl ml_X1_115 ci_X0_setLatest cv_X0_setLatest (K_12 h0) (ci := 0) rfl rfl (Nat.le_of_ble_eq_true rfl) d_X1_clean_86) (s_X0_setLatest hst h0 (by omega) (I_12)) kp_I (fun D6 _ => ?_)
      refine r_iconst (pc := 89) (1 : Int32) d_X1_clean_89 rfl ?_
      exact r_zret (pc := 90) rfl (by decide) d_X1_clean_90
    · refine r_iconst (pc := 48) (0 : Int32) d_X1_clean_48 rfl ?_
      exact r_zret (pc := 49) rfl (by decide) d_X1_clean_49
  · refine r_iconst (pc := 23) (0 : Int32) d_X1_clean_23 rfl ?_
    exact r_zret (pc := 24) rfl (by decide) d_X1_clean_24
/-! CoveredSigns$AlphabetText.hasLatest -/
theorem d_X1_hasLatest_0 : decode (yB m_X1_hasLatest) 0 = .ok (.aload_n 0, 1) := by decide +kernel
theorem d_X1_hasLatest_1 : decode (yB m_X1_hasLatest) 1 = .ok (.getfield 12, 3) := by decide +kernel
theorem d_X1_hasLatest_4 : decode (yB m_X1_hasLatest) 4 = .ok (.getfield 97, 3) := by decide +kernel
theorem d_X1_hasLatest_7 : decode (yB m_X1_hasLatest) 7 = .ok (.ifCond .gt 15, 3) := by decide +kernel
theorem d_X1_hasLatest_10 : decode (yB m_X1_hasLatest) 10 = .ok (.aload_n 0, 1) := by decide +kernel
theorem d_X1_hasLatest_11 : decode (yB m_X1_hasLatest) 11 = .ok (.getfield 18, 3) := by decide +kernel
theorem d_X1_hasLatest_14 : decode (yB m_X1_hasLatest) 14 = .ok (.iconst 1, 1) := by decide +kernel
theorem d_X1_hasLatest_15 : decode (yB m_X1_hasLatest) 15 = .ok (.iload_n 1, 1) := by decide +kernel
theorem d_X1_hasLatest_16 : decode (yB m_X1_hasLatest) 16 = .ok (.invokevirtual 61, 3) := by decide +kernel
theorem d_X1_hasLatest_19 : decode (yB m_X1_hasLatest) 19 = .ok (.ifCond .eq 7, 3) := by decide +kernel
theorem d_X1_hasLatest_22 : decode (yB m_X1_hasLatest) 22 = .ok (.iconst 1, 1) := by decide +kernel
theorem d_X1_hasLatest_23 : decode (yB m_X1_hasLatest) 23 = .ok (.goto 4, 3) := by decide +kernel
theorem d_X1_hasLatest_26 : decode (yB m_X1_hasLatest) 26 = .ok (.iconst 0, 1) := by decide +kernel
theorem d_X1_hasLatest_27 : decode (yB m_X1_hasLatest) 27 = .ok (.ireturn, 1) := by decide +kernel
def fn_X1_hasLatest (v1 : Int32) (D : zD) : Option (Int32 × zD) := (if 0 < (gI D 12 2) then ((some ((1 : Int32), D))) else ((fn_X8_blame (1 : Int32) v1 D).bind fun q2 => (if q2.1 = 0 then ((some ((0 : Int32), q2.2))) else ((some ((1 : Int32), q2.2))))))
theorem s_X1_hasLatest {X : zX} {Sh : zSh} {d : Nat} (hst : (zl X).stackTraces = false) (h0 : zSh0 Sh) (hd : 2 ≤ d) {v1 : Int32} {D : zD} : Sd X m_X1_hasLatest d [.ref 11, .int v1] (Sh, D) ((oI Sh) (fn_X1_hasLatest v1 D)) := by
  obtain ⟨d, rfl⟩ : ∃ e, d = e + 1 := ⟨d - 1, by omega⟩
  replace hd : 1 ≤ d := by omega
  refine z_body ck_X1_hasLatest rfl (Nat.le_of_ble_eq_true rfl) rfl hst ?_
  rw [fn_X1_hasLatest]
  show Rn X m_X1_hasLatest (d + 1) 0 [(0, .ref 11), (1, .int v1)] [] (Sh, D) _
  refine r_aload_n (pc := 0) 0 d_X1_hasLatest_0 rfl rfl ?_
  refine r_getR (pc := 1) g_X1_12 (K_11 h0) rfl (R_11_1 h0) d_X1_hasLatest_1 ?_
  refine q_gIn (pc := 4) g_X1_97 (K_12 h0) rfl d_X1_hasLatest_4 ?_
  refine r_if_gt (f := (oI Sh)) (pc := 7) 22 d_X1_hasLatest_7 (by decide) (fun c1 => ?_) (fun c1 => ?_)
  · refine r_iconst (pc := 22) (1 : Int32) d_X1_hasLatest_22 rfl ?_
    refine r_goto (pc := 23) 27 d_X1_hasLatest_23 (by decide) ?_
    exact r_zret (pc := 27) rfl (by decide) d_X1_hasLatest_27
  · refine r_aload_n (pc := 10) 0 d_X1_hasLatest_10 rfl rfl ?_
    refine r_getR (pc := 11) g_X1_18 (K_11 h0) rfl (R_11_0 h0) d_X1_hasLatest_11 ?_
    refine r_iconst (pc := 14) (1 : Int32) d_X1_hasLatest_14 rfl ?_
    refine r_iload_n (pc := 15) 1 d_X1_hasLatest_15 rfl rfl ?_
    refine q_cI (f := (oI Sh)) (av := [.ref 2, .int (1 : Int32), .int v1]) (st := []) (z_runV ck_X8_blame rfl ml_X1_61 ci_X8_blame cv_X8_blame (K_2 h0) (ci := 8) rfl rfl (Nat.le_of_ble_eq_true rfl) d_X1_hasLatest_16) (s_X8_blame hst h0 (by omega)) kp_I (fun q2 _ => ?_)
    refine r_if_eq (f := (oI Sh)) (pc := 19) 26 d_X1_hasLatest_19 (by decide) (fun c3 => ?_) (fun c3 => ?_)
    · refine r_iconst (pc := 26) (0 : Int32) d_X1_hasLatest_26 rfl ?_
      exact r_zret (pc := 27) rfl (by decide) d_X1_hasLatest_27
    · refine r_iconst (pc := 22) (1 : Int32) d_X1_hasLatest_22 rfl ?_
      refine r_goto (pc := 23) 27 d_X1_hasLatest_23 (by decide) ?_
      exact r_zret (pc := 27) rfl (by decide) d_X1_hasLatest_27
/-! CoveredSigns$AlphabetText.hasRoom -/
theorem d_X1_hasRoom_0 : decode (yB m_X1_hasRoom) 0 = .ok (.iload_n 1, 1) := by decide +kernel
theorem d_X1_hasRoom_1 : decode (yB m_X1_hasRoom) 1 = .ok (.bipush 60, 2) := by decide +kernel
theorem d_X1_hasRoom_3 : decode (yB m_X1_hasRoom) 3 = .ok (.if_icmp .lt 15, 3) := by decide +kernel
theorem d_X1_hasRoom_6 : decode (yB m_X1_hasRoom) 6 = .ok (.aload_n 0, 1) := by decide +kernel
theorem d_X1_hasRoom_7 : decode (yB m_X1_hasRoom) 7 = .ok (.getfield 18, 3) := by decide +kernel
theorem d_X1_hasRoom_10 : decode (yB m_X1_hasRoom) 10 = .ok (.iconst 3, 1) := by decide +kernel
theorem d_X1_hasRoom_11 : decode (yB m_X1_hasRoom) 11 = .ok (.iload_n 2, 1) := by decide +kernel
theorem d_X1_hasRoom_12 : decode (yB m_X1_hasRoom) 12 = .ok (.invokevirtual 61, 3) := by decide +kernel
theorem d_X1_hasRoom_15 : decode (yB m_X1_hasRoom) 15 = .ok (.ifCond .eq 7, 3) := by decide +kernel
theorem d_X1_hasRoom_18 : decode (yB m_X1_hasRoom) 18 = .ok (.iconst 1, 1) := by decide +kernel
theorem d_X1_hasRoom_19 : decode (yB m_X1_hasRoom) 19 = .ok (.goto 4, 3) := by decide +kernel
theorem d_X1_hasRoom_22 : decode (yB m_X1_hasRoom) 22 = .ok (.iconst 0, 1) := by decide +kernel
theorem d_X1_hasRoom_23 : decode (yB m_X1_hasRoom) 23 = .ok (.ireturn, 1) := by decide +kernel
def fn_X1_hasRoom (v1 : Int32) (v2 : Int32) (D : zD) : Option (Int32 × zD) := (if v1 < (60 : Int32) then ((some ((1 : Int32), D))) else ((fn_X8_blame (3 : Int32) v2 D).bind fun q2 => (if q2.1 = 0 then ((some ((0 : Int32), q2.2))) else ((some ((1 : Int32), q2.2))))))
theorem s_X1_hasRoom {X : zX} {Sh : zSh} {d : Nat} (hst : (zl X).stackTraces = false) (h0 : zSh0 Sh) (hd : 2 ≤ d) {v1 : Int32} {v2 : Int32} {D : zD} : Sd X m_X1_hasRoom d [.ref 11, .int v1, .int v2] (Sh, D) ((oI Sh) (fn_X1_hasRoom v1 v2 D)) := by
  obtain ⟨d, rfl⟩ : ∃ e, d = e + 1 := ⟨d - 1, by omega⟩
  replace hd : 1 ≤ d := by omega
  refine z_body ck_X1_hasRoom rfl (Nat.le_of_ble_eq_true rfl) rfl hst ?_
  rw [fn_X1_hasRoom]
  show Rn X m_X1_hasRoom (d + 1) 0 [(0, .ref 11), (1, .int v1), (2, .int v2)] [] (Sh, D) _
  refine r_iload_n (pc := 0) 1 d_X1_hasRoom_0 rfl rfl ?_
  refine r_bipush (pc := 1) (60 : Int32) d_X1_hasRoom_1 rfl ?_
  refine r_icmp_lt (f := (oI Sh)) (pc := 3) 18 d_X1_hasRoom_3 (by decide) (fun c1 => ?_) (fun c1 => ?_)
  · refine r_iconst (pc := 18) (1 : Int32) d_X1_hasRoom_18 rfl ?_
    refine r_goto (pc := 19) 23 d_X1_hasRoom_19 (by decide) ?_
    exact r_zret (pc := 23) rfl (by decide) d_X1_hasRoom_23
  · refine r_aload_n (pc := 6) 0 d_X1_hasRoom_6 rfl rfl ?_
    refine r_getR (pc := 7) g_X1_18 (K_11 h0) rfl (R_11_0 h0) d_X1_hasRoom_7 ?_
    refine r_iconst (pc := 10) (3 : Int32) d_X1_hasRoom_10 rfl ?_
    refine r_iload_n (pc := 11) 2 d_X1_hasRoom_11 rfl rfl ?_
    refine q_cI (f := (oI Sh)) (av := [.ref 2, .int (3 : Int32), .int v2]) (st := []) (z_runV ck_X8_blame rfl ml_X1_61 ci_X8_blame cv_X8_blame (K_2 h0) (ci := 8) rfl rfl (Nat.le_of_ble_eq_true rfl) d_X1_hasRoom_12) (s_X8_blame hst h0 (by omega)) kp_I (fun q2 _ => ?_)
    refine r_if_eq (f := (oI Sh)) (pc := 15) 22 d_X1_hasRoom_15 (by decide) (fun c3 => ?_) (fun c3 => ?_)
    · refine r_iconst (pc := 22) (0 : Int32) d_X1_hasRoom_22 rfl ?_
      exact r_zret (pc := 23) rfl (by decide) d_X1_hasRoom_23
    · refine r_iconst (pc := 18) (1 : Int32) d_X1_hasRoom_18 rfl ?_
      refine r_goto (pc := 19) 23 d_X1_hasRoom_19 (by decide) ?_
      exact r_zret (pc := 23) rfl (by decide) d_X1_hasRoom_23
/-! CoveredSigns$AlphabetText.kin -/
theorem d_X1_kin_0 : decode (yB m_X1_kin) 0 = .ok (.aload_n 0, 1) := by decide +kernel
theorem d_X1_kin_1 : decode (yB m_X1_kin) 1 = .ok (.getfield 18, 3) := by decide +kernel
theorem d_X1_kin_4 : decode (yB m_X1_kin) 4 = .ok (.iconst 0, 1) := by decide +kernel
theorem d_X1_kin_5 : decode (yB m_X1_kin) 5 = .ok (.iconst 3, 1) := by decide +kernel
theorem d_X1_kin_6 : decode (yB m_X1_kin) 6 = .ok (.invokevirtual 101, 3) := by decide +kernel
theorem d_X1_kin_9 : decode (yB m_X1_kin) 9 = .ok (.istore_n 1, 1) := by decide +kernel
theorem d_X1_kin_10 : decode (yB m_X1_kin) 10 = .ok (.iload_n 1, 1) := by decide +kernel
theorem d_X1_kin_11 : decode (yB m_X1_kin) 11 = .ok (.iconst (-1), 1) := by decide +kernel
theorem d_X1_kin_12 : decode (yB m_X1_kin) 12 = .ok (.if_icmp .ne 5, 3) := by decide +kernel
theorem d_X1_kin_15 : decode (yB m_X1_kin) 15 = .ok (.iconst 0, 1) := by decide +kernel
theorem d_X1_kin_16 : decode (yB m_X1_kin) 16 = .ok (.ireturn, 1) := by decide +kernel
theorem d_X1_kin_17 : decode (yB m_X1_kin) 17 = .ok (.aload_n 0, 1) := by decide +kernel
theorem d_X1_kin_18 : decode (yB m_X1_kin) 18 = .ok (.getfield 18, 3) := by decide +kernel
theorem d_X1_kin_21 : decode (yB m_X1_kin) 21 = .ok (.iconst 0, 1) := by decide +kernel
theorem d_X1_kin_22 : decode (yB m_X1_kin) 22 = .ok (.aload_n 0, 1) := by decide +kernel
theorem d_X1_kin_23 : decode (yB m_X1_kin) 23 = .ok (.getfield 12, 3) := by decide +kernel
theorem d_X1_kin_26 : decode (yB m_X1_kin) 26 = .ok (.getfield 97, 3) := by decide +kernel
theorem d_X1_kin_29 : decode (yB m_X1_kin) 29 = .ok (.iconst 1, 1) := by decide +kernel
theorem d_X1_kin_30 : decode (yB m_X1_kin) 30 = .ok (.isub, 1) := by decide +kernel
theorem d_X1_kin_31 : decode (yB m_X1_kin) 31 = .ok (.invokevirtual 101, 3) := by decide +kernel
theorem d_X1_kin_34 : decode (yB m_X1_kin) 34 = .ok (.istore_n 2, 1) := by decide +kernel
theorem d_X1_kin_35 : decode (yB m_X1_kin) 35 = .ok (.iload_n 2, 1) := by decide +kernel
theorem d_X1_kin_36 : decode (yB m_X1_kin) 36 = .ok (.iconst (-1), 1) := by decide +kernel
theorem d_X1_kin_37 : decode (yB m_X1_kin) 37 = .ok (.if_icmp .ne 5, 3) := by decide +kernel
theorem d_X1_kin_40 : decode (yB m_X1_kin) 40 = .ok (.iconst 0, 1) := by decide +kernel
theorem d_X1_kin_41 : decode (yB m_X1_kin) 41 = .ok (.ireturn, 1) := by decide +kernel
theorem d_X1_kin_42 : decode (yB m_X1_kin) 42 = .ok (.aload_n 0, 1) := by decide +kernel
theorem d_X1_kin_43 : decode (yB m_X1_kin) 43 = .ok (.getfield 12, 3) := by decide +kernel
theorem d_X1_kin_46 : decode (yB m_X1_kin) 46 = .ok (.iload_n 2, 1) := by decide +kernel
theorem d_X1_kin_47 : decode (yB m_X1_kin) 47 = .ok (.iload_n 1, 1) := by decide +kernel
theorem d_X1_kin_48 : decode (yB m_X1_kin) 48 = .ok (.invokevirtual 125, 3) := by decide +kernel
theorem d_X1_kin_51 : decode (yB m_X1_kin) 51 = .ok (.iconst 1, 1) := by decide +kernel
theorem d_X1_kin_52 : decode (yB m_X1_kin) 52 = .ok (.ireturn, 1) := by decide +kernel
def fn_X1_kin (D : zD) : Option (Int32 × zD) := (fn_X8_number (0 : Int32) (3 : Int32) D).bind fun q1 => (if q1.1 = (-1 : Int32) then ((some ((0 : Int32), q1.2))) else ((fn_X8_number (0 : Int32) ((gI q1.2 12 2) - (1 : Int32)) q1.2).bind fun q3 => (if q3.1 = (-1 : Int32) then ((some ((0 : Int32), q3.2))) else ((fn_X0_setFamily 12 q3.1 q1.1 q3.2).bind fun D5 => (some ((1 : Int32), D5))))))
theorem s_X1_kin {X : zX} {Sh : zSh} {d : Nat} (hst : (zl X).stackTraces = false) (h0 : zSh0 Sh) (hd : 3 ≤ d)  {D : zD} : Sd X m_X1_kin d [.ref 11] (Sh, D) ((oI Sh) (fn_X1_kin D)) := by
  obtain ⟨d, rfl⟩ : ∃ e, d = e + 1 := ⟨d - 1, by omega⟩
  replace hd : 2 ≤ d := by omega
  refine z_body ck_X1_kin rfl (Nat.le_of_ble_eq_true rfl) rfl hst ?_
  rw [fn_X1_kin]
  show Rn X m_X1_kin (d + 1) 0 [(0, .ref 11)] [] (Sh, D) _
  refine r_aload_n (pc := 0) 0 d_X1_kin_0 rfl rfl ?_
  refine r_getR (pc := 1) g_X1_18 (K_11 h0) rfl (R_11_0 h0) d_X1_kin_1 ?_
  refine r_iconst (pc := 4) (0 : Int32) d_X1_kin_4 rfl ?_
  refine r_iconst (pc := 5) (3 : Int32) d_X1_kin_5 rfl ?_
  refine q_cI (f := (oI Sh)) (av := [.ref 2, .int (0 : Int32), .int (3 : Int32)]) (st := []) (z_runV ck_X8_number rfl ml_X1_101 ci_X8_number cv_X8_number (K_2 h0) (ci := 8) rfl rfl (Nat.le_of_ble_eq_true rfl) d_X1_kin_6) (s_X8_number hst h0 (by omega)) kp_I (fun q1 _ => ?_)
  refine r_istore_n (pc := 9) (ls' := [(1, .int q1.1), (0, .ref 11)]) d_X1_kin_9 rfl (Nat.le_of_ble_eq_true rfl) rfl ?_
  refine r_iload_n (pc := 10) 0 d_X1_kin_10 rfl rfl ?_
  refine r_iconst (pc := 11) (-1 : Int32) d_X1_kin_11 rfl ?_
  refine r_icmp_ne (f := (oI Sh)) (pc := 12) 17 d_X1_kin_12 (by decide) (fun c2 => ?_) (fun c2 => ?_)
  · refine r_aload_n (pc := 17) 1 d_X1_kin_17 rfl rfl ?_
    refine r_getR (pc := 18) g_X1_18 (K_11 h0) rfl (R_11_0 h0) d_X1_kin_18 ?_
    refine r_iconst (pc := 21) (0 : Int32) d_X1_kin_21 rfl ?_
    refine r_aload_n (pc := 22) 1 d_X1_kin_22 rfl rfl ?_
    refine r_getR (pc := 23) g_X1_12 (K_11 h0) rfl (R_11_1 h0) d_X1_kin_23 ?_
    refine q_gIn (pc := 26) g_X1_97 (K_12 h0) rfl d_X1_kin_26 ?_
    refine r_iconst (pc := 29) (1 : Int32) d_X1_kin_29 rfl ?_
    refine r_isub (pc := 30) d_X1_kin_30 ?_
    refine q_cI (f := (oI Sh)) (av := [.ref 2, .int (0 : Int32), .int ((gI q1.2 12 2) - (1 : Int32))]) (st := []) (z_runV ck_X8_number rfl ml_X1_101 ci_X8_number cv_X8_number (K_2 h0) (ci := 8) rfl rfl (Nat.le_of_ble_eq_true rfl) d_X1_kin_31) (s_X8_number hst h0 (by omega)) kp_I (fun q3 _ => ?_)
    refine r_istore_n (pc := 34) (ls' := [(2, .int q3.1), (1, .int q1.1), (0, .ref 11)]) d_X1_kin_34 rfl (Nat.le_of_ble_eq_true rfl) rfl ?_
    refine r_iload_n (pc := 35) 0 d_X1_kin_35 rfl rfl ?_
    refine r_iconst (pc := 36) (-1 : Int32) d_X1_kin_36 rfl ?_
    refine r_icmp_ne (f := (oI Sh)) (pc := 37) 42 d_X1_kin_37 (by decide) (fun c4 => ?_) (fun c4 => ?_)
    · refine r_aload_n (pc := 42) 2 d_X1_kin_42 rfl rfl ?_
      refine r_getR (pc := 43) g_X1_12 (K_11 h0) rfl (R_11_1 h0) d_X1_kin_43 ?_
      refine r_iload_n (pc := 46) 0 d_X1_kin_46 rfl rfl ?_
      refine r_iload_n (pc := 47) 1 d_X1_kin_47 rfl rfl ?_
      refine q_cV (f := (oI Sh)) (av := [.ref 12, .int q3.1, .int q1.1]) (st := []) (z_runV ck_X0_setFamily rfl ml_X1_125 ci_X0_setFamily cv_X0_setFamily (K_12 h0) (ci := 0) rfl rfl (Nat.le_of_ble_eq_true rfl) d_X1_kin_48) (s_X0_setFamily hst h0 (by omega) (I_12)) kp_I (fun D5 _ => ?_)
      refine r_iconst (pc := 51) (1 : Int32) d_X1_kin_51 rfl ?_
      exact r_zret (pc := 52) rfl (by decide) d_X1_kin_52
    · refine r_iconst (pc := 40) (0 : Int32) d_X1_kin_40 rfl ?_
      exact r_zret (pc := 41) rfl (by decide) d_X1_kin_41
  · refine r_iconst (pc := 15) (0 : Int32) d_X1_kin_15 rfl ?_
    exact r_zret (pc := 16) rfl (by decide) d_X1_kin_16
/-! CoveredSigns$AlphabetText.oneMore -/
theorem d_X1_oneMore_0 : decode (yB m_X1_oneMore) 0 = .ok (.aload_n 0, 1) := by decide +kernel
theorem d_X1_oneMore_1 : decode (yB m_X1_oneMore) 1 = .ok (.getfield 12, 3) := by decide +kernel
theorem d_X1_oneMore_4 : decode (yB m_X1_oneMore) 4 = .ok (.getfield 97, 3) := by decide +kernel
theorem d_X1_oneMore_7 : decode (yB m_X1_oneMore) 7 = .ok (.bipush 12, 2) := by decide +kernel
theorem d_X1_oneMore_9 : decode (yB m_X1_oneMore) 9 = .ok (.if_icmp .lt 13, 3) := by decide +kernel
theorem d_X1_oneMore_12 : decode (yB m_X1_oneMore) 12 = .ok (.aload_n 0, 1) := by decide +kernel
theorem d_X1_oneMore_13 : decode (yB m_X1_oneMore) 13 = .ok (.getfield 18, 3) := by decide +kernel
theorem d_X1_oneMore_16 : decode (yB m_X1_oneMore) 16 = .ok (.iconst 3, 1) := by decide +kernel
theorem d_X1_oneMore_17 : decode (yB m_X1_oneMore) 17 = .ok (.iload_n 1, 1) := by decide +kernel
theorem d_X1_oneMore_18 : decode (yB m_X1_oneMore) 18 = .ok (.invokevirtual 61, 3) := by decide +kernel
theorem d_X1_oneMore_21 : decode (yB m_X1_oneMore) 21 = .ok (.ireturn, 1) := by decide +kernel
theorem d_X1_oneMore_22 : decode (yB m_X1_oneMore) 22 = .ok (.aload_n 0, 1) := by decide +kernel
theorem d_X1_oneMore_23 : decode (yB m_X1_oneMore) 23 = .ok (.getfield 18, 3) := by decide +kernel
theorem d_X1_oneMore_26 : decode (yB m_X1_oneMore) 26 = .ok (.iconst 0, 1) := by decide +kernel
theorem d_X1_oneMore_27 : decode (yB m_X1_oneMore) 27 = .ok (.aload_n 0, 1) := by decide +kernel
theorem d_X1_oneMore_28 : decode (yB m_X1_oneMore) 28 = .ok (.getfield 12, 3) := by decide +kernel
theorem d_X1_oneMore_31 : decode (yB m_X1_oneMore) 31 = .ok (.getfield 97, 3) := by decide +kernel
theorem d_X1_oneMore_34 : decode (yB m_X1_oneMore) 34 = .ok (.iconst 1, 1) := by decide +kernel
theorem d_X1_oneMore_35 : decode (yB m_X1_oneMore) 35 = .ok (.isub, 1) := by decide +kernel
theorem d_X1_oneMore_36 : decode (yB m_X1_oneMore) 36 = .ok (.invokevirtual 101, 3) := by decide +kernel
theorem d_X1_oneMore_39 : decode (yB m_X1_oneMore) 39 = .ok (.istore_n 3, 1) := by decide +kernel
theorem d_X1_oneMore_40 : decode (yB m_X1_oneMore) 40 = .ok (.iload_n 3, 1) := by decide +kernel
theorem d_X1_oneMore_41 : decode (yB m_X1_oneMore) 41 = .ok (.iconst (-1), 1) := by decide +kernel
theorem d_X1_oneMore_42 : decode (yB m_X1_oneMore) 42 = .ok (.if_icmp .ne 5, 3) := by decide +kernel
theorem d_X1_oneMore_45 : decode (yB m_X1_oneMore) 45 = .ok (.iconst 0, 1) := by decide +kernel
theorem d_X1_oneMore_46 : decode (yB m_X1_oneMore) 46 = .ok (.ireturn, 1) := by decide +kernel
theorem d_X1_oneMore_47 : decode (yB m_X1_oneMore) 47 = .ok (.aload_n 0, 1) := by decide +kernel
theorem d_X1_oneMore_48 : decode (yB m_X1_oneMore) 48 = .ok (.getfield 12, 3) := by decide +kernel
theorem d_X1_oneMore_51 : decode (yB m_X1_oneMore) 51 = .ok (.iload_n 3, 1) := by decide +kernel
theorem d_X1_oneMore_52 : decode (yB m_X1_oneMore) 52 = .ok (.invokevirtual 111, 3) := by decide +kernel
theorem d_X1_oneMore_55 : decode (yB m_X1_oneMore) 55 = .ok (.istore 4, 2) := by decide +kernel
theorem d_X1_oneMore_57 : decode (yB m_X1_oneMore) 57 = .ok (.aload_n 0, 1) := by decide +kernel
theorem d_X1_oneMore_58 : decode (yB m_X1_oneMore) 58 = .ok (.getfield 12, 3) := by decide +kernel
theorem d_X1_oneMore_61 : decode (yB m_X1_oneMore) 61 = .ok (.iload_n 2, 1) := by decide +kernel
theorem d_X1_oneMore_62 : decode (yB m_X1_oneMore) 62 = .ok (.ifCond .eq 15, 3) := by decide +kernel
theorem d_X1_oneMore_65 : decode (yB m_X1_oneMore) 65 = .ok (.aload_n 0, 1) := by decide +kernel
theorem d_X1_oneMore_66 : decode (yB m_X1_oneMore) 66 = .ok (.getfield 12, 3) := by decide +kernel
theorem d_X1_oneMore_69 : decode (yB m_X1_oneMore) 69 = .ok (.iload 4, 2) := by decide +kernel
theorem d_X1_oneMore_71 : decode (yB m_X1_oneMore) 71 = .ok (.invokevirtual 119, 3) := by decide +kernel
theorem d_X1_oneMore_74 : decode (yB m_X1_oneMore) 74 = .ok (.goto 12, 3) := by decide +kernel
theorem d_X1_oneMore_77 : decode (yB m_X1_oneMore) 77 = .ok (.aload_n 0, 1) := by decide +kernel
theorem d_X1_oneMore_78 : decode (yB m_X1_oneMore) 78 = .ok (.getfield 12, 3) := by decide +kernel
theorem d_X1_oneMore_81 : decode (yB m_X1_oneMore) 81 = .ok (.iload 4, 2) := by decide +kernel
theorem d_X1_oneMore_83 : decode (yB m_X1_oneMore) 83 = .ok (.invokevirtual 122, 3) := by decide +kernel
theorem d_X1_oneMore_86 : decode (yB m_X1_oneMore) 86 = .ok (.invokevirtual 58, 3) := by decide +kernel
theorem d_X1_oneMore_89 : decode (yB m_X1_oneMore) 89 = .ok (.ireturn, 1) := by decide +kernel
def fn_X1_oneMore (v1 : Int32) (v2 : Int32) (D : zD) : Option (Int32 × zD) := (if (gI D 12 2) < (12 : Int32) then ((fn_X8_number (0 : Int32) ((gI D 12 2) - (1 : Int32)) D).bind fun q2 => (if q2.1 = (-1 : Int32) then ((some ((0 : Int32), q2.2))) else ((fn_X0_paintOf 12 q2.1 q2.2).bind fun x4 => (if v2 = 0 then ((fn_X0_mirrored 12 x4 q2.2).bind fun x6 => (fn_X0_addSign 12 x6 q2.2).bind fun q7 => zcb q7.1 <| (some (q7.1, q7.2))) else ((fn_X0_halfTurned 12 x4 q2.2).bind fun x9 => (fn_X0_addSign 12 x9 q2.2).bind fun q10 => zcb q10.1 <| (some (q10.1, q10.2))))))) else ((fn_X8_blame (3 : Int32) v1 D).bind fun q12 => zcb q12.1 <| (some (q12.1, q12.2))))
theorem s_X1_oneMore {X : zX} {Sh : zSh} {d : Nat} (hst : (zl X).stackTraces = false) (h0 : zSh0 Sh) (hd : 3 ≤ d) {v1 : Int32} {v2 : Int32} {D : zD} : Sd X m_X1_oneMore d [.ref 11, .int v1, .int v2] (Sh, D) ((oI Sh) (fn_X1_oneMore v1 v2 D)) := by
  obtain ⟨d, rfl⟩ : ∃ e, d = e + 1 := ⟨d - 1, by omega⟩
  replace hd : 2 ≤ d := by omega
  refine z_body ck_X1_oneMore rfl (Nat.le_of_ble_eq_true rfl) rfl hst ?_
  rw [fn_X1_oneMore]
  show Rn X m_X1_oneMore (d + 1) 0 [(0, .ref 11), (1, .int v1), (2, .int v2)] [] (Sh, D) _
  refine r_aload_n (pc := 0) 0 d_X1_oneMore_0 rfl rfl ?_
  refine r_getR (pc := 1) g_X1_12 (K_11 h0) rfl (R_11_1 h0) d_X1_oneMore_1 ?_
  refine q_gIn (pc := 4) g_X1_97 (K_12 h0) rfl d_X1_oneMore_4 ?_
  refine r_bipush (pc := 7) (12 : Int32) d_X1_oneMore_7 rfl ?_
  refine r_icmp_lt (f := (oI Sh)) (pc := 9) 22 d_X1_oneMore_9 (by decide) (fun c1 => ?_) (fun c1 => ?_)
  · refine r_aload_n (pc := 22) 0 d_X1_oneMore_22 rfl rfl ?_
    refine r_getR (pc := 23) g_X1_18 (K_11 h0) rfl (R_11_0 h0) d_X1_oneMore_23 ?_
    refine r_iconst (pc := 26) (0 : Int32) d_X1_oneMore_26 rfl ?_
    refine r_aload_n (pc := 27) 0 d_X1_oneMore_27 rfl rfl ?_
    refine r_getR (pc := 28) g_X1_12 (K_11 h0) rfl (R_11_1 h0) d_X1_oneMore_28 ?_
    refine q_gIn (pc := 31) g_X1_97 (K_12 h0) rfl d_X1_oneMore_31 ?_
    refine r_iconst (pc := 34) (1 : Int32) d_X1_oneMore_34 rfl ?_
    refine r_isub (pc := 35) d_X1_oneMore_35 ?_
    refine q_cI (f := (oI Sh)) (av := [.ref 2, .int (0 : Int32), .int ((gI D 12 2) - (1 : Int32))]) (st := []) (z_runV ck_X8_number rfl ml_X1_101 ci_X8_number cv_X8_number (K_2 h0) (ci := 8) rfl rfl (Nat.le_of_ble_eq_true rfl) d_X1_oneMore_36) (s_X8_number hst h0 (by omega)) kp_I (fun q2 _ => ?_)
    refine r_istore_n (pc := 39) (ls' := [(3, .int q2.1), (0, .ref 11), (1, .int v1), (2, .int v2)]) d_X1_oneMore_39 rfl (Nat.le_of_ble_eq_true rfl) rfl ?_
    refine r_iload_n (pc := 40) 0 d_X1_oneMore_40 rfl rfl ?_
    refine r_iconst (pc := 41) (-1 : Int32) d_X1_oneMore_41 rfl ?_
    refine r_icmp_ne (f := (oI Sh)) (pc := 42) 47 d_X1_oneMore_42 (by decide) (fun c3 => ?_) (fun c3 => ?_)
    · refine r_aload_n (pc := 47) 1 d_X1_oneMore_47 rfl rfl ?_
      refine r_getR (pc := 48) g_X1_12 (K_11 h0) rfl (R_11_1 h0) d_X1_oneMore_48 ?_
      refine r_iload_n (pc := 51) 0 d_X1_oneMore_51 rfl rfl ?_
      refine q_cP (f := (oI Sh)) (av := [.ref 12, .int q2.1]) (st := []) (z_runV ck_X0_paintOf rfl ml_X1_111 ci_X0_paintOf cv_X0_paintOf (K_12 h0) (ci := 0) rfl rfl (Nat.le_of_ble_eq_true rfl) d_X1_oneMore_52) (s_X0_paintOf hst h0 (by omega) (I_12)) kp_I (fun x4 _ => ?_)
      refine r_istore (pc := 55) (ls' := [(4, .int x4), (3, .int q2.1), (0, .ref 11), (1, .int v1), (2, .int v2)]) d_X1_oneMore_55 (Nat.le_of_ble_eq_true rfl) rfl ?_
      refine r_aload_n (pc := 57) 2 d_X1_oneMore_57 rfl rfl ?_
      refine r_getR (pc := 58) g_X1_12 (K_11 h0) rfl (R_11_1 h0) d_X1_oneMore_58 ?_
      refine r_iload_n (pc := 61) 4 d_X1_oneMore_61 rfl rfl ?_
      refine r_if_eq (f := (oI Sh)) (pc := 62) 77 d_X1_oneMore_62 (by decide) (fun c5 => ?_) (fun c5 => ?_)
      · refine r_aload_n (pc := 77) 2 d_X1_oneMore_77 rfl rfl ?_
        refine r_getR (pc := 78) g_X1_12 (K_11 h0) rfl (R_11_1 h0) d_X1_oneMore_78 ?_
        refine r_iload (pc := 81) 0 d_X1_oneMore_81 rfl ?_
        refine q_cP (f := (oI Sh)) (av := [.ref 12, .int x4]) (st := [.ref 12]) (z_runV ck_X0_mirrored rfl ml_X1_122 ci_X0_mirrored cv_X0_mirrored (K_12 h0) (ci := 0) rfl rfl (Nat.le_of_ble_eq_true rfl) d_X1_oneMore_83) (s_X0_mirrored hst h0 (by omega) (I_12)) kp_I (fun x6 _ => ?_)
        refine q_cI (f := (oI Sh)) (av := [.ref 12, .int x6]) (st := []) (z_runV ck_X0_addSign rfl ml_X1_58 ci_X0_addSign cv_X0_addSign (K_12 h0) (ci := 0) rfl rfl (Nat.le_of_ble_eq_true rfl) d_X1_oneMore_86) (s_X0_addSign hst h0 (by omega) (I_12)) kp_I (fun q7 _ => ?_)
        refine r_cb (f := (oI Sh)) rfl (fun hb8 => ?_)
        exact r_zret (pc := 89) rfl hb8 d_X1_oneMore_89
      · refine r_aload_n (pc := 65) 2 d_X1_oneMore_65 rfl rfl ?_
        refine r_getR (pc := 66) g_X1_12 (K_11 h0) rfl (R_11_1 h0) d_X1_oneMore_66 ?_
        refine r_iload (pc := 69) 0 d_X1_oneMore_69 rfl ?_
        refine q_cP (f := (oI Sh)) (av := [.ref 12, .int x4]) (st := [.ref 12]) (z_runV ck_X0_halfTurned rfl ml_X1_119 ci_X0_halfTurned cv_X0_halfTurned (K_12 h0) (ci := 0) rfl rfl (Nat.le_of_ble_eq_true rfl) d_X1_oneMore_71) (s_X0_halfTurned hst h0 (by omega) (I_12)) kp_I (fun x9 _ => ?_)
        refine r_goto (pc := 74) 86 d_X1_oneMore_74 (by decide) ?_
        refine q_cI (f := (oI Sh)) (av := [.ref 12, .int x9]) (st := []) (z_runV ck_X0_addSign rfl ml_X1_58 ci_X0_addSign cv_X0_addSign (K_12 h0) (ci := 0) rfl rfl (Nat.le_of_ble_eq_true rfl) d_X1_oneMore_86) (s_X0_addSign hst h0 (by omega) (I_12)) kp_I (fun q10 _ => ?_)
        refine r_cb (f := (oI Sh)) rfl (fun hb11 => ?_)
        exact r_zret (pc := 89) rfl hb11 d_X1_oneMore_89
    · refine r_iconst (pc := 45) (0 : Int32) d_X1_oneMore_45 rfl ?_
      exact r_zret (pc := 46) rfl (by decide) d_X1_oneMore_46
  · refine r_aload_n (pc := 12) 0 d_X1_oneMore_12 rfl rfl ?_
    refine r_getR (pc := 13) g_X1_18 (K_11 h0) rfl (R_11_0 h0) d_X1_oneMore_13 ?_
    refine r_iconst (pc := 16) (3 : Int32) d_X1_oneMore_16 rfl ?_
    refine r_iload_n (pc := 17) 1 d_X1_oneMore_17 rfl rfl ?_
    refine q_cI (f := (oI Sh)) (av := [.ref 2, .int (3 : Int32), .int v1]) (st := []) (z_runV ck_X8_blame rfl ml_X1_61 ci_X8_blame cv_X8_blame (K_2 h0) (ci := 8) rfl rfl (Nat.le_of_ble_eq_true rfl) d_X1_oneMore_18) (s_X8_blame hst h0 (by omega)) kp_I (fun q12 _ => ?_)
    refine r_cb (f := (oI Sh)) rfl (fun hb13 => ?_)
    exact r_zret (pc := 21) rfl hb13 d_X1_oneMore_21
/-! CoveredSigns$AlphabetText.size -/
theorem d_X1_size_0 : decode (yB m_X1_size) 0 = .ok (.iload_n 1, 1) := by decide +kernel
theorem d_X1_size_1 : decode (yB m_X1_size) 1 = .ok (.ifCond .le 13, 3) := by decide +kernel
theorem d_X1_size_4 : decode (yB m_X1_size) 4 = .ok (.aload_n 0, 1) := by decide +kernel
theorem d_X1_size_5 : decode (yB m_X1_size) 5 = .ok (.getfield 18, 3) := by decide +kernel
theorem d_X1_size_8 : decode (yB m_X1_size) 8 = .ok (.iconst 4, 1) := by decide +kernel
theorem d_X1_size_9 : decode (yB m_X1_size) 9 = .ok (.iload_n 2, 1) := by decide +kernel
theorem d_X1_size_10 : decode (yB m_X1_size) 10 = .ok (.invokevirtual 61, 3) := by decide +kernel
theorem d_X1_size_13 : decode (yB m_X1_size) 13 = .ok (.ireturn, 1) := by decide +kernel
theorem d_X1_size_14 : decode (yB m_X1_size) 14 = .ok (.aload_n 0, 1) := by decide +kernel
theorem d_X1_size_15 : decode (yB m_X1_size) 15 = .ok (.getfield 18, 3) := by decide +kernel
theorem d_X1_size_18 : decode (yB m_X1_size) 18 = .ok (.iconst 2, 1) := by decide +kernel
theorem d_X1_size_19 : decode (yB m_X1_size) 19 = .ok (.bipush 6, 2) := by decide +kernel
theorem d_X1_size_21 : decode (yB m_X1_size) 21 = .ok (.invokevirtual 101, 3) := by decide +kernel
theorem d_X1_size_24 : decode (yB m_X1_size) 24 = .ok (.istore_n 3, 1) := by decide +kernel
theorem d_X1_size_25 : decode (yB m_X1_size) 25 = .ok (.iload_n 3, 1) := by decide +kernel
theorem d_X1_size_26 : decode (yB m_X1_size) 26 = .ok (.iconst (-1), 1) := by decide +kernel
theorem d_X1_size_27 : decode (yB m_X1_size) 27 = .ok (.if_icmp .ne 5, 3) := by decide +kernel
theorem d_X1_size_30 : decode (yB m_X1_size) 30 = .ok (.iconst 0, 1) := by decide +kernel
theorem d_X1_size_31 : decode (yB m_X1_size) 31 = .ok (.ireturn, 1) := by decide +kernel
theorem d_X1_size_32 : decode (yB m_X1_size) 32 = .ok (.aload_n 0, 1) := by decide +kernel
theorem d_X1_size_33 : decode (yB m_X1_size) 33 = .ok (.getfield 18, 3) := by decide +kernel
theorem d_X1_size_36 : decode (yB m_X1_size) 36 = .ok (.iconst 2, 1) := by decide +kernel
theorem d_X1_size_37 : decode (yB m_X1_size) 37 = .ok (.iconst 5, 1) := by decide +kernel
theorem d_X1_size_38 : decode (yB m_X1_size) 38 = .ok (.invokevirtual 101, 3) := by decide +kernel
theorem d_X1_size_41 : decode (yB m_X1_size) 41 = .ok (.istore 4, 2) := by decide +kernel
theorem d_X1_size_43 : decode (yB m_X1_size) 43 = .ok (.iload 4, 2) := by decide +kernel
theorem d_X1_size_45 : decode (yB m_X1_size) 45 = .ok (.iconst (-1), 1) := by decide +kernel
theorem d_X1_size_46 : decode (yB m_X1_size) 46 = .ok (.if_icmp .ne 5, 3) := by decide +kernel
theorem d_X1_size_49 : decode (yB m_X1_size) 49 = .ok (.iconst 0, 1) := by decide +kernel
theorem d_X1_size_50 : decode (yB m_X1_size) 50 = .ok (.ireturn, 1) := by decide +kernel
theorem d_X1_size_51 : decode (yB m_X1_size) 51 = .ok (.aload_n 0, 1) := by decide +kernel
theorem d_X1_size_52 : decode (yB m_X1_size) 52 = .ok (.getfield 12, 3) := by decide +kernel
theorem d_X1_size_55 : decode (yB m_X1_size) 55 = .ok (.iload_n 3, 1) := by decide +kernel
theorem d_X1_size_56 : decode (yB m_X1_size) 56 = .ok (.putfield 105, 3) := by decide +kernel
theorem d_X1_size_59 : decode (yB m_X1_size) 59 = .ok (.aload_n 0, 1) := by decide +kernel
theorem d_X1_size_60 : decode (yB m_X1_size) 60 = .ok (.getfield 12, 3) := by decide +kernel
theorem d_X1_size_63 : decode (yB m_X1_size) 63 = .ok (.iload 4, 2) := by decide +kernel
theorem d_X1_size_65 : decode (yB m_X1_size) 65 = .ok (.putfield 108, 3) := by decide +kernel
theorem d_X1_size_68 : decode (yB m_X1_size) 68 = .ok (.iconst 1, 1) := by decide +kernel
theorem d_X1_size_69 : decode (yB m_X1_size) 69 = .ok (.ireturn, 1) := by decide +kernel
def fn_X1_size (v1 : Int32) (v2 : Int32) (D : zD) : Option (Int32 × zD) := (if v1 ≤ 0 then ((fn_X8_number (2 : Int32) (6 : Int32) D).bind fun q2 => (if q2.1 = (-1 : Int32) then ((some ((0 : Int32), q2.2))) else ((fn_X8_number (2 : Int32) (5 : Int32) q2.2).bind fun q4 => (if q4.1 = (-1 : Int32) then ((some ((0 : Int32), q4.2))) else (zlet (sI q4.2 12 0 q2.1) fun D6 => zlet (sI D6 12 1 q4.1) fun D7 => (some ((1 : Int32), D7))))))) else ((fn_X8_blame (4 : Int32) v2 D).bind fun q8 => zcb q8.1 <| (some (q8.1, q8.2))))
theorem s_X1_size {X : zX} {Sh : zSh} {d : Nat} (hst : (zl X).stackTraces = false) (h0 : zSh0 Sh) (hd : 3 ≤ d) {v1 : Int32} {v2 : Int32} {D : zD} : Sd X m_X1_size d [.ref 11, .int v1, .int v2] (Sh, D) ((oI Sh) (fn_X1_size v1 v2 D)) := by
  obtain ⟨d, rfl⟩ : ∃ e, d = e + 1 := ⟨d - 1, by omega⟩
  replace hd : 2 ≤ d := by omega
  refine z_body ck_X1_size rfl (Nat.le_of_ble_eq_true rfl) rfl hst ?_
  rw [fn_X1_size]
  show Rn X m_X1_size (d + 1) 0 [(0, .ref 11), (1, .int v1), (2, .int v2)] [] (Sh, D) _
  refine r_iload_n (pc := 0) 1 d_X1_size_0 rfl rfl ?_
  refine r_if_le (f := (oI Sh)) (pc := 1) 14 d_X1_size_1 (by decide) (fun c1 => ?_) (fun c1 => ?_)
  · refine r_aload_n (pc := 14) 0 d_X1_size_14 rfl rfl ?_
    refine r_getR (pc := 15) g_X1_18 (K_11 h0) rfl (R_11_0 h0) d_X1_size_15 ?_
    refine r_iconst (pc := 18) (2 : Int32) d_X1_size_18 rfl ?_
    refine r_bipush (pc := 19) (6 : Int32) d_X1_size_19 rfl ?_
    refine q_cI (f := (oI Sh)) (av := [.ref 2, .int (2 : Int32), .int (6 : Int32)]) (st := []) (z_runV ck_X8_number rfl ml_X1_101 ci_X8_number cv_X8_number (K_2 h0) (ci := 8) rfl rfl (Nat.le_of_ble_eq_true rfl) d_X1_size_21) (s_X8_number hst h0 (by omega)) kp_I (fun q2 _ => ?_)
    refine r_istore_n (pc := 24) (ls' := [(3, .int q2.1), (0, .ref 11), (1, .int v1), (2, .int v2)]) d_X1_size_24 rfl (Nat.le_of_ble_eq_true rfl) rfl ?_
    refine r_iload_n (pc := 25) 0 d_X1_size_25 rfl rfl ?_
    refine r_iconst (pc := 26) (-1 : Int32) d_X1_size_26 rfl ?_
    refine r_icmp_ne (f := (oI Sh)) (pc := 27) 32 d_X1_size_27 (by decide) (fun c3 => ?_) (fun c3 => ?_)
    · refine r_aload_n (pc := 32) 1 d_X1_size_32 rfl rfl ?_
      refine r_getR (pc := 33) g_X1_18 (K_11 h0) rfl (R_11_0 h0) d_X1_size_33 ?_
      refine r_iconst (pc := 36) (2 : Int32) d_X1_size_36 rfl ?_
      refine r_iconst (pc := 37) (5 : Int32) d_X1_size_37 rfl ?_
      refine q_cI (f := (oI Sh)) (av := [.ref 2, .int (2 : Int32), .int (5 : Int32)]) (st := []) (z_runV ck_X8_number rfl ml_X1_101 ci_X8_number cv_X8_number (K_2 h0) (ci := 8) rfl rfl (Nat.le_of_ble_eq_true rfl) d_X1_size_38) (s_X8_number hst h0 (by omega)) kp_I (fun q4 _ => ?_)
      refine r_istore (pc := 41) (ls' := [(4, .int q4.1), (3, .int q2.1), (0, .ref 11), (1, .int v1), (2, .int v2)]) d_X1_size_41 (Nat.le_of_ble_eq_true rfl) rfl ?_
      refine r_iload (pc := 43) 0 d_X1_size_43 rfl ?_
      refine r_iconst (pc := 45) (-1 : Int32) d_X1_size_45 rfl ?_
      refine r_icmp_ne (f := (oI Sh)) (pc := 46) 51 d_X1_size_46 (by decide) (fun c5 => ?_) (fun c5 => ?_)
      · refine r_aload_n (pc := 51) 2 d_X1_size_51 rfl rfl ?_
        refine r_getR (pc := 52) g_X1_12 (K_11 h0) rfl (R_11_1 h0) d_X1_size_52 ?_
        refine r_iload_n (pc := 55) 1 d_X1_size_55 rfl rfl ?_
        refine r_putIn (pc := 56) p_X1_105 (K_12 h0) rfl (Or.inl rfl) d_X1_size_56 ?_
        refine r_letD (f := (oI Sh)) (fun D6 => ?_)
        refine r_aload_n (pc := 59) 2 d_X1_size_59 rfl rfl ?_
        refine r_getR (pc := 60) g_X1_12 (K_11 h0) rfl (R_11_1 h0) d_X1_size_60 ?_
        refine r_iload (pc := 63) 0 d_X1_size_63 rfl ?_
        refine r_putIn (pc := 65) p_X1_108 (K_12 h0) rfl (Or.inl rfl) d_X1_size_65 ?_
        refine r_letD (f := (oI Sh)) (fun D7 => ?_)
        refine r_iconst (pc := 68) (1 : Int32) d_X1_size_68 rfl ?_
        exact r_zret (pc := 69) rfl (by decide) d_X1_size_69
      · refine r_iconst (pc := 49) (0 : Int32) d_X1_size_49 rfl ?_
        exact r_zret (pc := 50) rfl (by decide) d_X1_size_50
    · refine r_iconst (pc := 30) (0 : Int32) d_X1_size_30 rfl ?_
      exact r_zret (pc := 31) rfl (by decide) d_X1_size_31
  · refine r_aload_n (pc := 4) 0 d_X1_size_4 rfl rfl ?_
    refine r_getR (pc := 5) g_X1_18 (K_11 h0) rfl (R_11_0 h0) d_X1_size_5 ?_
    refine r_iconst (pc := 8) (4 : Int32) d_X1_size_8 rfl ?_
    refine r_iload_n (pc := 9) 2 d_X1_size_9 rfl rfl ?_
    refine q_cI (f := (oI Sh)) (av := [.ref 2, .int (4 : Int32), .int v2]) (st := []) (z_runV ck_X8_blame rfl ml_X1_61 ci_X8_blame cv_X8_blame (K_2 h0) (ci := 8) rfl rfl (Nat.le_of_ble_eq_true rfl) d_X1_size_10) (s_X8_blame hst h0 (by omega)) kp_I (fun q8 _ => ?_)
    refine r_cb (f := (oI Sh)) rfl (fun hb9 => ?_)
    exact r_zret (pc := 13) rfl hb9 d_X1_size_13
/-! CoveredSigns$AlphabetText.spelling -/
theorem d_X1_spelling_0 : decode (yB m_X1_spelling) 0 = .ok (.aload_n 0, 1) := by decide +kernel
theorem d_X1_spelling_1 : decode (yB m_X1_spelling) 1 = .ok (.getfield 12, 3) := by decide +kernel
theorem d_X1_spelling_4 : decode (yB m_X1_spelling) 4 = .ok (.getfield 129, 3) := by decide +kernel
theorem d_X1_spelling_7 : decode (yB m_X1_spelling) 7 = .ok (.bipush 8, 2) := by decide +kernel
theorem d_X1_spelling_9 : decode (yB m_X1_spelling) 9 = .ok (.if_icmp .lt 13, 3) := by decide +kernel
theorem d_X1_spelling_12 : decode (yB m_X1_spelling) 12 = .ok (.aload_n 0, 1) := by decide +kernel
theorem d_X1_spelling_13 : decode (yB m_X1_spelling) 13 = .ok (.getfield 18, 3) := by decide +kernel
theorem d_X1_spelling_16 : decode (yB m_X1_spelling) 16 = .ok (.iconst 3, 1) := by decide +kernel
theorem d_X1_spelling_17 : decode (yB m_X1_spelling) 17 = .ok (.iload_n 1, 1) := by decide +kernel
theorem d_X1_spelling_18 : decode (yB m_X1_spelling) 18 = .ok (.invokevirtual 61, 3) := by decide +kernel
theorem d_X1_spelling_21 : decode (yB m_X1_spelling) 21 = .ok (.ireturn, 1) := by decide +kernel
theorem d_X1_spelling_22 : decode (yB m_X1_spelling) 22 = .ok (.aload_n 0, 1) := by decide +kernel
theorem d_X1_spelling_23 : decode (yB m_X1_spelling) 23 = .ok (.getfield 18, 3) := by decide +kernel
theorem d_X1_spelling_26 : decode (yB m_X1_spelling) 26 = .ok (.invokevirtual 39, 3) := by decide +kernel
theorem d_X1_spelling_29 : decode (yB m_X1_spelling) 29 = .ok (.istore_n 2, 1) := by decide +kernel
theorem d_X1_spelling_30 : decode (yB m_X1_spelling) 30 = .ok (.aload_n 0, 1) := by decide +kernel
theorem d_X1_spelling_31 : decode (yB m_X1_spelling) 31 = .ok (.getfield 18, 3) := by decide +kernel
theorem d_X1_spelling_34 : decode (yB m_X1_spelling) 34 = .ok (.iload_n 2, 1) := by decide +kernel
theorem d_X1_spelling_35 : decode (yB m_X1_spelling) 35 = .ok (.invokevirtual 132, 3) := by decide +kernel
theorem d_X1_spelling_38 : decode (yB m_X1_spelling) 38 = .ok (.istore_n 3, 1) := by decide +kernel
theorem d_X1_spelling_39 : decode (yB m_X1_spelling) 39 = .ok (.iload_n 3, 1) := by decide +kernel
theorem d_X1_spelling_40 : decode (yB m_X1_spelling) 40 = .ok (.ifCond .ne 13, 3) := by decide +kernel
theorem d_X1_spelling_43 : decode (yB m_X1_spelling) 43 = .ok (.aload_n 0, 1) := by decide +kernel
theorem d_X1_spelling_44 : decode (yB m_X1_spelling) 44 = .ok (.getfield 18, 3) := by decide +kernel
theorem d_X1_spelling_47 : decode (yB m_X1_spelling) 47 = .ok (.iconst 1, 1) := by decide +kernel
theorem d_X1_spelling_48 : decode (yB m_X1_spelling) 48 = .ok (.iload_n 2, 1) := by decide +kernel
theorem d_X1_spelling_49 : decode (yB m_X1_spelling) 49 = .ok (.invokevirtual 61, 3) := by decide +kernel
theorem d_X1_spelling_52 : decode (yB m_X1_spelling) 52 = .ok (.ireturn, 1) := by decide +kernel
theorem d_X1_spelling_53 : decode (yB m_X1_spelling) 53 = .ok (.iload_n 3, 1) := by decide +kernel
theorem d_X1_spelling_54 : decode (yB m_X1_spelling) 54 = .ok (.bipush 6, 2) := by decide +kernel
theorem d_X1_spelling_56 : decode (yB m_X1_spelling) 56 = .ok (.if_icmp .le 13, 3) := by decide +kernel
theorem d_X1_spelling_59 : decode (yB m_X1_spelling) 59 = .ok (.aload_n 0, 1) := by decide +kernel
theorem d_X1_spelling_60 : decode (yB m_X1_spelling) 60 = .ok (.getfield 18, 3) := by decide +kernel
theorem d_X1_spelling_63 : decode (yB m_X1_spelling) 63 = .ok (.iconst 2, 1) := by decide +kernel
theorem d_X1_spelling_64 : decode (yB m_X1_spelling) 64 = .ok (.iload_n 2, 1) := by decide +kernel
theorem d_X1_spelling_65 : decode (yB m_X1_spelling) 65 = .ok (.invokevirtual 61, 3) := by decide +kernel
theorem d_X1_spelling_68 : decode (yB m_X1_spelling) 68 = .ok (.ireturn, 1) := by decide +kernel
theorem d_X1_spelling_69 : decode (yB m_X1_spelling) 69 = .ok (.iconst 0, 1) := by decide +kernel
theorem d_X1_spelling_70 : decode (yB m_X1_spelling) 70 = .ok (.istore 4, 2) := by decide +kernel
theorem d_X1_spelling_72 : decode (yB m_X1_spelling) 72 = .ok (.iload 4, 2) := by decide +kernel
theorem d_X1_spelling_74 : decode (yB m_X1_spelling) 74 = .ok (.iload_n 3, 1) := by decide +kernel
theorem d_X1_spelling_75 : decode (yB m_X1_spelling) 75 = .ok (.if_icmp .ge 61, 3) := by decide +kernel
theorem d_X1_spelling_78 : decode (yB m_X1_spelling) 78 = .ok (.aload_n 0, 1) := by decide +kernel
theorem d_X1_spelling_79 : decode (yB m_X1_spelling) 79 = .ok (.getfield 18, 3) := by decide +kernel
theorem d_X1_spelling_82 : decode (yB m_X1_spelling) 82 = .ok (.iload_n 2, 1) := by decide +kernel
theorem d_X1_spelling_83 : decode (yB m_X1_spelling) 83 = .ok (.iload 4, 2) := by decide +kernel
theorem d_X1_spelling_85 : decode (yB m_X1_spelling) 85 = .ok (.iadd, 1) := by decide +kernel
theorem d_X1_spelling_86 : decode (yB m_X1_spelling) 86 = .ok (.invokevirtual 135, 3) := by decide +kernel
theorem d_X1_spelling_89 : decode (yB m_X1_spelling) 89 = .ok (.bipush 97, 2) := by decide +kernel
theorem d_X1_spelling_91 : decode (yB m_X1_spelling) 91 = .ok (.isub, 1) := by decide +kernel
theorem d_X1_spelling_92 : decode (yB m_X1_spelling) 92 = .ok (.istore 5, 2) := by decide +kernel
theorem d_X1_spelling_94 : decode (yB m_X1_spelling) 94 = .ok (.aload_n 0, 1) := by decide +kernel
theorem d_X1_spelling_95 : decode (yB m_X1_spelling) 95 = .ok (.getfield 12, 3) := by decide +kernel
theorem d_X1_spelling_98 : decode (yB m_X1_spelling) 98 = .ok (.iload 5, 2) := by decide +kernel
theorem d_X1_spelling_100 : decode (yB m_X1_spelling) 100 = .ok (.invokevirtual 138, 3) := by decide +kernel
theorem d_X1_spelling_103 : decode (yB m_X1_spelling) 103 = .ok (.ifCond .eq 17, 3) := by decide +kernel
theorem d_X1_spelling_106 : decode (yB m_X1_spelling) 106 = .ok (.aload_n 0, 1) := by decide +kernel
theorem d_X1_spelling_107 : decode (yB m_X1_spelling) 107 = .ok (.getfield 12, 3) := by decide +kernel
theorem d_X1_spelling_110 : decode (yB m_X1_spelling) 110 = .ok (.iload 4, 2) := by decide +kernel
theorem d_X1_spelling_112 : decode (yB m_X1_spelling) 112 = .ok (.iload 5, 2) := by decide +kernel
theorem d_X1_spelling_114 : decode (yB m_X1_spelling) 114 = .ok (.invokevirtual 141, 3) := by decide +kernel
theorem d_X1_spelling_117 : decode (yB m_X1_spelling) 117 = .ok (.ifCond .ne 13, 3) := by decide +kernel
theorem d_X1_spelling_120 : decode (yB m_X1_spelling) 120 = .ok (.aload_n 0, 1) := by decide +kernel
theorem d_X1_spelling_121 : decode (yB m_X1_spelling) 121 = .ok (.getfield 18, 3) := by decide +kernel
theorem d_X1_spelling_124 : decode (yB m_X1_spelling) 124 = .ok (.iconst 2, 1) := by decide +kernel
theorem d_X1_spelling_125 : decode (yB m_X1_spelling) 125 = .ok (.iload_n 2, 1) := by decide +kernel
theorem d_X1_spelling_126 : decode (yB m_X1_spelling) 126 = .ok (.invokevirtual 61, 3) := by decide +kernel
theorem d_X1_spelling_129 : decode (yB m_X1_spelling) 129 = .ok (.ireturn, 1) := by decide +kernel
theorem d_X1_spelling_130 : decode (yB m_X1_spelling) 130 = .ok (.iinc 4 1, 3) := by decide +kernel
theorem d_X1_spelling_133 : decode (yB m_X1_spelling) 133 = .ok (.goto (-61), 3) := by decide +kernel
theorem d_X1_spelling_136 : decode (yB m_X1_spelling) 136 = .ok (.aload_n 0, 1) := by decide +kernel
theorem d_X1_spelling_137 : decode (yB m_X1_spelling) 137 = .ok (.getfield 18, 3) := by decide +kernel
theorem d_X1_spelling_140 : decode (yB m_X1_spelling) 140 = .ok (.iload_n 2, 1) := by decide +kernel
theorem d_X1_spelling_141 : decode (yB m_X1_spelling) 141 = .ok (.iload_n 3, 1) := by decide +kernel
theorem d_X1_spelling_142 : decode (yB m_X1_spelling) 142 = .ok (.iadd, 1) := by decide +kernel
theorem d_X1_spelling_143 : decode (yB m_X1_spelling) 143 = .ok (.invokevirtual 144, 3) := by decide +kernel
theorem d_X1_spelling_146 : decode (yB m_X1_spelling) 146 = .ok (.aload_n 0, 1) := by decide +kernel
theorem d_X1_spelling_147 : decode (yB m_X1_spelling) 147 = .ok (.getfield 12, 3) := by decide +kernel
theorem d_X1_spelling_150 : decode (yB m_X1_spelling) 150 = .ok (.iload_n 3, 1) := by decide +kernel
theorem d_X1_spelling_151 : decode (yB m_X1_spelling) 151 = .ok (.invokevirtual 147, 3) := by decide +kernel
theorem d_X1_spelling_154 : decode (yB m_X1_spelling) 154 = .ok (.ireturn, 1) := by decide +kernel
def fn_X1_spelling_136 (v1 : Int32) (v2 : Int32) (v3 : Int32) (D : zD) : Option (Int32 × zD) := (fn_X8_jump (v2 + v3) D).bind fun D7 => (fn_X0_endWord 12 v3 D7).bind fun q8 => zcb q8.1 <| (some (q8.1, q8.2))
def fn_X1_spelling_120 (v1 : Int32) (v2 : Int32) (D : zD) : Option (Int32 × zD) := (fn_X8_blame (2 : Int32) v2 D).bind fun q14 => zcb q14.1 <| (some (q14.1, q14.2))
def fn_X1_spelling_72 (v1 : Int32) : Nat → Int32 → Int32 → Int32 → zD → Option (Int32 × zD)
  | 0, _, _, _, _ => none
  | n + 1, v2, v3, v4, D => (if v3 ≤ v4 then ((fn_X1_spelling_136 v1 v2 v3 D)) else ((fn_X8_byteAt (v2 + v4) D).bind fun x10 => zlet (x10 - (97 : Int32)) fun x11 => (fn_X0_has 12 x11 D).bind fun x12 => (if x12 = 0 then ((fn_X1_spelling_120 v1 v2 D)) else ((fn_X0_addLetter 12 v4 x11 D).bind fun q16 => (if q16.1 = 0 then ((fn_X1_spelling_120 v1 v2 q16.2)) else (((fn_X1_spelling_72 v1 n) v2 v3 (v4 + (1 : Int32)) q16.2)))))))
def fn_X1_spelling (v1 : Int32) (D : zD) : Option (Int32 × zD) := (if (gI D 12 3) < (8 : Int32) then ((fn_X8_next D).bind fun q2 => (fn_X8_lettersFrom q2.1 q2.2).bind fun x3 => (if x3 = 0 then ((fn_X8_blame (1 : Int32) q2.1 q2.2).bind fun q20 => zcb q20.1 <| (some (q20.1, q20.2))) else ((if x3 ≤ (6 : Int32) then ((fn_X1_spelling_72 v1 zFU q2.1 x3 (0 : Int32) q2.2)) else ((fn_X8_blame (2 : Int32) q2.1 q2.2).bind fun q18 => zcb q18.1 <| (some (q18.1, q18.2))))))) else ((fn_X8_blame (3 : Int32) v1 D).bind fun q22 => zcb q22.1 <| (some (q22.1, q22.2))))
theorem s_X1_spelling_136 {X : zX} {Sh : zSh} {d : Nat} (hst : (zl X).stackTraces = false) (h0 : zSh0 Sh) (hd : 2 ≤ d) {v1 : Int32} (v2 : Int32) (v3 : Int32) (D : zD)  : Rn X m_X1_spelling (d + 1) 136 [(0, .ref 11), (2, .int v2), (3, .int v3)] [] (Sh, D) ((oI Sh) (fn_X1_spelling_136 v1 v2 v3 D)) := by
  rw [fn_X1_spelling_136]
  refine r_aload_n (pc := 136) 0 d_X1_spelling_136 rfl rfl ?_
  refine r_getR (pc := 137) g_X1_18 (K_11 h0) rfl (R_11_0 h0) d_X1_spelling_137 ?_
  refine r_iload_n (pc := 140) 1 d_X1_spelling_140 rfl rfl ?_
  refine r_iload_n (pc := 141) 2 d_X1_spelling_141 rfl rfl ?_
  refine r_iadd (pc := 142) d_X1_spelling_142 ?_
  refine q_cV (f := (oI Sh)) (av := [.ref 2, .int (v2 + v3)]) (st := []) (z_runV ck_X8_jump rfl ml_X1_144 ci_X8_jump cv_X8_jump (K_2 h0) (ci := 8) rfl rfl (Nat.le_of_ble_eq_true rfl) d_X1_spelling_143) (s_X8_jump hst h0 (by omega)) kp_I (fun D7 _ => ?_)
  refine r_aload_n (pc := 146) 0 d_X1_spelling_146 rfl rfl ?_
  refine r_getR (pc := 147) g_X1_12 (K_11 h0) rfl (R_11_1 h0) d_X1_spelling_147 ?_
  refine r_iload_n (pc := 150) 2 d_X1_spelling_150 rfl rfl ?_
  refine q_cI (f := (oI Sh)) (av := [.ref 12, .int v3]) (st := []) (z_runV ck_X0_endWord rfl ml_X1_147 ci_X0_endWord cv_X0_endWord (K_12 h0) (ci := 0) rfl rfl (Nat.le_of_ble_eq_true rfl) d_X1_spelling_151) (s_X0_endWord hst h0 (by omega) (I_12)) kp_I (fun q8 _ => ?_)
  refine r_cb (f := (oI Sh)) rfl (fun hb9 => ?_)
  exact r_zret (pc := 154) rfl hb9 d_X1_spelling_154
theorem s_X1_spelling_120 {X : zX} {Sh : zSh} {d : Nat} (hst : (zl X).stackTraces = false) (h0 : zSh0 Sh) (hd : 2 ≤ d) {v1 : Int32} (v2 : Int32) (D : zD)  : Rn X m_X1_spelling (d + 1) 120 [(0, .ref 11), (2, .int v2)] [] (Sh, D) ((oI Sh) (fn_X1_spelling_120 v1 v2 D)) := by
  rw [fn_X1_spelling_120]
  refine r_aload_n (pc := 120) 0 d_X1_spelling_120 rfl rfl ?_
  refine r_getR (pc := 121) g_X1_18 (K_11 h0) rfl (R_11_0 h0) d_X1_spelling_121 ?_
  refine r_iconst (pc := 124) (2 : Int32) d_X1_spelling_124 rfl ?_
  refine r_iload_n (pc := 125) 1 d_X1_spelling_125 rfl rfl ?_
  refine q_cI (f := (oI Sh)) (av := [.ref 2, .int (2 : Int32), .int v2]) (st := []) (z_runV ck_X8_blame rfl ml_X1_61 ci_X8_blame cv_X8_blame (K_2 h0) (ci := 8) rfl rfl (Nat.le_of_ble_eq_true rfl) d_X1_spelling_126) (s_X8_blame hst h0 (by omega)) kp_I (fun q14 _ => ?_)
  refine r_cb (f := (oI Sh)) rfl (fun hb15 => ?_)
  exact r_zret (pc := 129) rfl hb15 d_X1_spelling_129
theorem s_X1_spelling_72 {X : zX} {Sh : zSh} {d : Nat} (hst : (zl X).stackTraces = false) (h0 : zSh0 Sh) (hd : 2 ≤ d) {v1 : Int32} : ∀ (n : Nat) (v2 : Int32) (v3 : Int32) (v4 : Int32) (D : zD) , Rn X m_X1_spelling (d + 1) 72 [(0, .ref 11), (2, .int v2), (3, .int v3), (4, .int v4)] [] (Sh, D) ((oI Sh) (fn_X1_spelling_72 v1 n v2 v3 v4 D)) := by
  intro n
  induction n with
  | zero => intro v2 v3 v4 D; exact Rn_none rfl
  | succ n hk72 =>
    intro v2 v3 v4 D
    rw [fn_X1_spelling_72]
    refine r_iload (pc := 72) 3 d_X1_spelling_72 rfl ?_
    refine r_iload_n (pc := 74) 2 d_X1_spelling_74 rfl rfl ?_
    refine r_icmp_ge (f := (oI Sh)) (pc := 75) 136 d_X1_spelling_75 (by decide) (fun c6 => ?_) (fun c6 => ?_)
    · refine r_pick [0, 1, 2] (ls' := [(0, .ref 11), (2, .int v2), (3, .int v3)]) rfl ?_
      exact s_X1_spelling_136 hst h0 hd v2 v3 D
    · refine r_aload_n (pc := 78) 0 d_X1_spelling_78 rfl rfl ?_
      refine r_getR (pc := 79) g_X1_18 (K_11 h0) rfl (R_11_0 h0) d_X1_spelling_79 ?_
      refine r_iload_n (pc := 82) 1 d_X1_spelling_82 rfl rfl ?_
      refine r_iload (pc := 83) 3 d_X1_spelling_83 rfl ?_
      refine r_iadd (pc := 85) d_X1_spelling_85 ?_
      refine q_cP (f := (oI Sh)) (av := [.ref 2, .int (v2 + v4)]) (st := []) (z_runV ck_X8_byteAt rfl ml_X1_135 ci_X8_byteAt cv_X8_byteAt (K_2 h0) (ci := 8) rfl rfl (Nat.le_of_ble_eq_true rfl) d_X1_spelling_86) (s_X8_byteAt hst h0 (by omega)) kp_I (fun x10 _ => ?_)
      refine r_bipush (pc := 89) (97 : Int32) d_X1_spelling_89 rfl ?_
      refine r_isub (pc := 91) d_X1_spelling_91 ?_
      refine r_leti (f := (oI Sh)) (fun x11 => ?_)
      refine r_istore (pc := 92) (ls' := [(5, .int x11), (0, .ref 11), (2, .int v2), (3, .int v3), (4, .int v4)]) d_X1_spelling_92 (Nat.le_of_ble_eq_true rfl) rfl ?_
      refine r_aload_n (pc := 94) 1 d_X1_spelling_94 rfl rfl ?_
      refine r_getR (pc := 95) g_X1_12 (K_11 h0) rfl (R_11_1 h0) d_X1_spelling_95 ?_
      refine r_iload (pc := 98) 0 d_X1_spelling_98 rfl ?_
      refine q_cP (f := (oI Sh)) (av := [.ref 12, .int x11]) (st := []) (z_runV ck_X0_has rfl ml_X1_138 ci_X0_has cv_X0_has (K_12 h0) (ci := 0) rfl rfl (Nat.le_of_ble_eq_true rfl) d_X1_spelling_100) (s_X0_has hst h0 (by omega) (I_12)) kp_I (fun x12 _ => ?_)
      refine r_if_eq (f := (oI Sh)) (pc := 103) 120 d_X1_spelling_103 (by decide) (fun c13 => ?_) (fun c13 => ?_)
      · refine r_pick [1, 2] (ls' := [(0, .ref 11), (2, .int v2)]) rfl ?_
        exact s_X1_spelling_120 hst h0 hd v2 D
      · refine r_aload_n (pc := 106) 1 d_X1_spelling_106 rfl rfl ?_
        refine r_getR (pc := 107) g_X1_12 (K_11 h0) rfl (R_11_1 h0) d_X1_spelling_107 ?_
        refine r_iload (pc := 110) 4 d_X1_spelling_110 rfl ?_
        refine r_iload (pc := 112) 0 d_X1_spelling_112 rfl ?_
        refine q_cI (f := (oI Sh)) (av := [.ref 12, .int v4, .int x11]) (st := []) (z_runV ck_X0_addLetter rfl ml_X1_141 ci_X0_addLetter cv_X0_addLetter (K_12 h0) (ci := 0) rfl rfl (Nat.le_of_ble_eq_true rfl) d_X1_spelling_114) (s_X0_addLetter hst h0 (by omega) (I_12)) kp_I (fun q16 _ => ?_)
        refine r_if_ne (f := (oI Sh)) (pc := 117) 130 d_X1_spelling_117 (by decide) (fun c17 => ?_) (fun c17 => ?_)
        · refine r_iinc (pc := 130) ((v4 + (1 : Int32))) 4 (ls' := [(4, .int (v4 + (1 : Int32))), (5, .int x11), (0, .ref 11), (2, .int v2), (3, .int v3)]) d_X1_spelling_130 rfl rfl (Nat.le_of_ble_eq_true rfl) rfl ?_
          refine r_goto (pc := 133) 72 d_X1_spelling_133 (by decide) ?_
          refine r_pick [2, 3, 4, 0] (ls' := [(0, .ref 11), (2, .int v2), (3, .int v3), (4, .int (v4 + (1 : Int32)))]) rfl ?_
          exact hk72 v2 v3 (v4 + (1 : Int32)) q16.2 
        · refine r_pick [1, 2] (ls' := [(0, .ref 11), (2, .int v2)]) rfl ?_
          exact s_X1_spelling_120 hst h0 hd v2 q16.2
theorem s_X1_spelling {X : zX} {Sh : zSh} {d : Nat} (hst : (zl X).stackTraces = false) (h0 : zSh0 Sh) (hd : 3 ≤ d) {v1 : Int32} {D : zD} : Sd X m_X1_spelling d [.ref 11, .int v1] (Sh, D) ((oI Sh) (fn_X1_spelling v1 D)) := by
  obtain ⟨d, rfl⟩ : ∃ e, d = e + 1 := ⟨d - 1, by omega⟩
  replace hd : 2 ≤ d := by omega
  refine z_body ck_X1_spelling rfl (Nat.le_of_ble_eq_true rfl) rfl hst ?_
  rw [fn_X1_spelling]
  show Rn X m_X1_spelling (d + 1) 0 [(0, .ref 11), (1, .int v1)] [] (Sh, D) _
  refine r_aload_n (pc := 0) 0 d_X1_spelling_0 rfl rfl ?_
  refine r_getR (pc := 1) g_X1_12 (K_11 h0) rfl (R_11_1 h0) d_X1_spelling_1 ?_
  refine q_gIn (pc := 4) g_X1_129 (K_12 h0) rfl d_X1_spelling_4 ?_
  refine r_bipush (pc := 7) (8 : Int32) d_X1_spelling_7 rfl ?_
  refine r_icmp_lt (f := (oI Sh)) (pc := 9) 22 d_X1_spelling_9 (by decide) (fun c1 => ?_) (fun c1 => ?_)
  · refine r_aload_n (pc := 22) 0 d_X1_spelling_22 rfl rfl ?_
    refine r_getR (pc := 23) g_X1_18 (K_11 h0) rfl (R_11_0 h0) d_X1_spelling_23 ?_
    refine q_cI (f := (oI Sh)) (av := [.ref 2]) (st := []) (z_runV ck_X8_next rfl ml_X1_39 ci_X8_next cv_X8_next (K_2 h0) (ci := 8) rfl rfl (Nat.le_of_ble_eq_true rfl) d_X1_spelling_26) (s_X8_next hst h0 (by omega)) kp_I (fun q2 _ => ?_)
    refine r_istore_n (pc := 29) (ls' := [(2, .int q2.1), (0, .ref 11), (1, .int v1)]) d_X1_spelling_29 rfl (Nat.le_of_ble_eq_true rfl) rfl ?_
    refine r_aload_n (pc := 30) 1 d_X1_spelling_30 rfl rfl ?_
    refine r_getR (pc := 31) g_X1_18 (K_11 h0) rfl (R_11_0 h0) d_X1_spelling_31 ?_
    refine r_iload_n (pc := 34) 0 d_X1_spelling_34 rfl rfl ?_
    refine q_cP (f := (oI Sh)) (av := [.ref 2, .int q2.1]) (st := []) (z_runV ck_X8_lettersFrom rfl ml_X1_132 ci_X8_lettersFrom cv_X8_lettersFrom (K_2 h0) (ci := 8) rfl rfl (Nat.le_of_ble_eq_true rfl) d_X1_spelling_35) (s_X8_lettersFrom hst h0 (by omega)) kp_I (fun x3 _ => ?_)
    refine r_istore_n (pc := 38) (ls' := [(3, .int x3), (2, .int q2.1), (0, .ref 11), (1, .int v1)]) d_X1_spelling_38 rfl (Nat.le_of_ble_eq_true rfl) rfl ?_
    refine r_iload_n (pc := 39) 0 d_X1_spelling_39 rfl rfl ?_
    refine r_if_ne (f := (oI Sh)) (pc := 40) 53 d_X1_spelling_40 (by decide) (fun c4 => ?_) (fun c4 => ?_)
    · refine r_iload_n (pc := 53) 0 d_X1_spelling_53 rfl rfl ?_
      refine r_bipush (pc := 54) (6 : Int32) d_X1_spelling_54 rfl ?_
      refine r_icmp_le (f := (oI Sh)) (pc := 56) 69 d_X1_spelling_56 (by decide) (fun c5 => ?_) (fun c5 => ?_)
      · refine r_iconst (pc := 69) (0 : Int32) d_X1_spelling_69 rfl ?_
        refine r_istore (pc := 70) (ls' := [(4, .int (0 : Int32)), (3, .int x3), (2, .int q2.1), (0, .ref 11), (1, .int v1)]) d_X1_spelling_70 (Nat.le_of_ble_eq_true rfl) rfl ?_
        refine r_pick [3, 2, 1, 0] (ls' := [(0, .ref 11), (2, .int q2.1), (3, .int x3), (4, .int (0 : Int32))]) rfl ?_
        exact s_X1_spelling_72 hst h0 hd zFU  q2.1 x3 (0 : Int32) q2.2
      · refine r_aload_n (pc := 59) 2 d_X1_spelling_59 rfl rfl ?_
        refine r_getR (pc := 60) g_X1_18 (K_11 h0) rfl (R_11_0 h0) d_X1_spelling_60 ?_
        refine r_iconst (pc := 63) (2 : Int32) d_X1_spelling_63 rfl ?_
        refine r_iload_n (pc := 64) 1 d_X1_spelling_64 rfl rfl ?_
        refine q_cI (f := (oI Sh)) (av := [.ref 2, .int (2 : Int32), .int q2.1]) (st := []) (z_runV ck_X8_blame rfl ml_X1_61 ci_X8_blame cv_X8_blame (K_2 h0) (ci := 8) rfl rfl (Nat.le_of_ble_eq_true rfl) d_X1_spelling_65) (s_X8_blame hst h0 (by omega)) kp_I (fun q18 _ => ?_)
        refine r_cb (f := (oI Sh)) rfl (fun hb19 => ?_)
        exact r_zret (pc := 68) rfl hb19 d_X1_spelling_68
    · refine r_aload_n (pc := 43) 2 d_X1_spelling_43 rfl rfl ?_
      refine r_getR (pc := 44) g_X1_18 (K_11 h0) rfl (R_11_0 h0) d_X1_spelling_44 ?_
      refine r_iconst (pc := 47) (1 : Int32) d_X1_spelling_47 rfl ?_
      refine r_iload_n (pc := 48) 1 d_X1_spelling_48 rfl rfl ?_
      refine q_cI (f := (oI Sh)) (av := [.ref 2, .int (1 : Int32), .int q2.1]) (st := []) (z_runV ck_X8_blame rfl ml_X1_61 ci_X8_blame cv_X8_blame (K_2 h0) (ci := 8) rfl rfl (Nat.le_of_ble_eq_true rfl) d_X1_spelling_49) (s_X8_blame hst h0 (by omega)) kp_I (fun q20 _ => ?_)
      refine r_cb (f := (oI Sh)) rfl (fun hb21 => ?_)
      exact r_zret (pc := 52) rfl hb21 d_X1_spelling_52
  · refine r_aload_n (pc := 12) 0 d_X1_spelling_12 rfl rfl ?_
    refine r_getR (pc := 13) g_X1_18 (K_11 h0) rfl (R_11_0 h0) d_X1_spelling_13 ?_
    refine r_iconst (pc := 16) (3 : Int32) d_X1_spelling_16 rfl ?_
    refine r_iload_n (pc := 17) 1 d_X1_spelling_17 rfl rfl ?_
    refine q_cI (f := (oI Sh)) (av := [.ref 2, .int (3 : Int32), .int v1]) (st := []) (z_runV ck_X8_blame rfl ml_X1_61 ci_X8_blame cv_X8_blame (K_2 h0) (ci := 8) rfl rfl (Nat.le_of_ble_eq_true rfl) d_X1_spelling_18) (s_X8_blame hst h0 (by omega)) kp_I (fun q22 _ => ?_)
    refine r_cb (f := (oI Sh)) rfl (fun hb23 => ?_)
    exact r_zret (pc := 21) rfl hb23 d_X1_spelling_21
/-! CoveredSigns$AlphabetText.stroke -/
theorem d_X1_stroke_0 : decode (yB m_X1_stroke) 0 = .ok (.aload_n 0, 1) := by decide +kernel
theorem d_X1_stroke_1 : decode (yB m_X1_stroke) 1 = .ok (.getfield 18, 3) := by decide +kernel
theorem d_X1_stroke_4 : decode (yB m_X1_stroke) 4 = .ok (.iconst 0, 1) := by decide +kernel
theorem d_X1_stroke_5 : decode (yB m_X1_stroke) 5 = .ok (.aload_n 0, 1) := by decide +kernel
theorem d_X1_stroke_6 : decode (yB m_X1_stroke) 6 = .ok (.getfield 12, 3) := by decide +kernel
theorem d_X1_stroke_9 : decode (yB m_X1_stroke) 9 = .ok (.getfield 105, 3) := by decide +kernel
theorem d_X1_stroke_12 : decode (yB m_X1_stroke) 12 = .ok (.iconst 1, 1) := by decide +kernel
theorem d_X1_stroke_13 : decode (yB m_X1_stroke) 13 = .ok (.isub, 1) := by decide +kernel
theorem d_X1_stroke_14 : decode (yB m_X1_stroke) 14 = .ok (.invokevirtual 101, 3) := by decide +kernel
theorem d_X1_stroke_17 : decode (yB m_X1_stroke) 17 = .ok (.istore_n 2, 1) := by decide +kernel
theorem d_X1_stroke_18 : decode (yB m_X1_stroke) 18 = .ok (.iload_n 2, 1) := by decide +kernel
theorem d_X1_stroke_19 : decode (yB m_X1_stroke) 19 = .ok (.iconst (-1), 1) := by decide +kernel
theorem d_X1_stroke_20 : decode (yB m_X1_stroke) 20 = .ok (.if_icmp .ne 5, 3) := by decide +kernel
theorem d_X1_stroke_23 : decode (yB m_X1_stroke) 23 = .ok (.iconst 0, 1) := by decide +kernel
theorem d_X1_stroke_24 : decode (yB m_X1_stroke) 24 = .ok (.ireturn, 1) := by decide +kernel
theorem d_X1_stroke_25 : decode (yB m_X1_stroke) 25 = .ok (.aload_n 0, 1) := by decide +kernel
theorem d_X1_stroke_26 : decode (yB m_X1_stroke) 26 = .ok (.getfield 18, 3) := by decide +kernel
theorem d_X1_stroke_29 : decode (yB m_X1_stroke) 29 = .ok (.iconst 0, 1) := by decide +kernel
theorem d_X1_stroke_30 : decode (yB m_X1_stroke) 30 = .ok (.aload_n 0, 1) := by decide +kernel
theorem d_X1_stroke_31 : decode (yB m_X1_stroke) 31 = .ok (.getfield 12, 3) := by decide +kernel
theorem d_X1_stroke_34 : decode (yB m_X1_stroke) 34 = .ok (.getfield 108, 3) := by decide +kernel
theorem d_X1_stroke_37 : decode (yB m_X1_stroke) 37 = .ok (.iconst 1, 1) := by decide +kernel
theorem d_X1_stroke_38 : decode (yB m_X1_stroke) 38 = .ok (.isub, 1) := by decide +kernel
theorem d_X1_stroke_39 : decode (yB m_X1_stroke) 39 = .ok (.invokevirtual 101, 3) := by decide +kernel
theorem d_X1_stroke_42 : decode (yB m_X1_stroke) 42 = .ok (.istore_n 3, 1) := by decide +kernel
theorem d_X1_stroke_43 : decode (yB m_X1_stroke) 43 = .ok (.iload_n 3, 1) := by decide +kernel
theorem d_X1_stroke_44 : decode (yB m_X1_stroke) 44 = .ok (.iconst (-1), 1) := by decide +kernel
theorem d_X1_stroke_45 : decode (yB m_X1_stroke) 45 = .ok (.if_icmp .ne 5, 3) := by decide +kernel
theorem d_X1_stroke_48 : decode (yB m_X1_stroke) 48 = .ok (.iconst 0, 1) := by decide +kernel
theorem d_X1_stroke_49 : decode (yB m_X1_stroke) 49 = .ok (.ireturn, 1) := by decide +kernel
theorem d_X1_stroke_50 : decode (yB m_X1_stroke) 50 = .ok (.aload_n 0, 1) := by decide +kernel
theorem d_X1_stroke_51 : decode (yB m_X1_stroke) 51 = .ok (.getfield 18, 3) := by decide +kernel
theorem d_X1_stroke_54 : decode (yB m_X1_stroke) 54 = .ok (.iconst 1, 1) := by decide +kernel
theorem d_X1_stroke_55 : decode (yB m_X1_stroke) 55 = .ok (.iload_n 1, 1) := by decide +kernel
theorem d_X1_stroke_56 : decode (yB m_X1_stroke) 56 = .ok (.ifCond .eq 15, 3) := by decide +kernel
theorem d_X1_stroke_59 : decode (yB m_X1_stroke) 59 = .ok (.aload_n 0, 1) := by decide +kernel
theorem d_X1_stroke_60 : decode (yB m_X1_stroke) 60 = .ok (.getfield 12, 3) := by decide +kernel
theorem d_X1_stroke_63 : decode (yB m_X1_stroke) 63 = .ok (.getfield 105, 3) := by decide +kernel
theorem d_X1_stroke_66 : decode (yB m_X1_stroke) 66 = .ok (.iload_n 2, 1) := by decide +kernel
theorem d_X1_stroke_67 : decode (yB m_X1_stroke) 67 = .ok (.isub, 1) := by decide +kernel
theorem d_X1_stroke_68 : decode (yB m_X1_stroke) 68 = .ok (.goto 12, 3) := by decide +kernel
theorem d_X1_stroke_71 : decode (yB m_X1_stroke) 71 = .ok (.aload_n 0, 1) := by decide +kernel
theorem d_X1_stroke_72 : decode (yB m_X1_stroke) 72 = .ok (.getfield 12, 3) := by decide +kernel
theorem d_X1_stroke_75 : decode (yB m_X1_stroke) 75 = .ok (.getfield 108, 3) := by decide +kernel
theorem d_X1_stroke_78 : decode (yB m_X1_stroke) 78 = .ok (.iload_n 3, 1) := by decide +kernel
theorem d_X1_stroke_79 : decode (yB m_X1_stroke) 79 = .ok (.isub, 1) := by decide +kernel
theorem d_X1_stroke_80 : decode (yB m_X1_stroke) 80 = .ok (.invokevirtual 101, 3) := by decide +kernel
theorem d_X1_stroke_83 : decode (yB m_X1_stroke) 83 = .ok (.istore 4, 2) := by decide +kernel
theorem d_X1_stroke_85 : decode (yB m_X1_stroke) 85 = .ok (.iload 4, 2) := by decide +kernel
theorem d_X1_stroke_87 : decode (yB m_X1_stroke) 87 = .ok (.iconst (-1), 1) := by decide +kernel
theorem d_X1_stroke_88 : decode (yB m_X1_stroke) 88 = .ok (.if_icmp .ne 5, 3) := by decide +kernel
theorem d_X1_stroke_91 : decode (yB m_X1_stroke) 91 = .ok (.iconst 0, 1) := by decide +kernel
theorem d_X1_stroke_92 : decode (yB m_X1_stroke) 92 = .ok (.ireturn, 1) := by decide +kernel
theorem d_X1_stroke_93 : decode (yB m_X1_stroke) 93 = .ok (.aload_n 0, 1) := by decide +kernel
theorem d_X1_stroke_94 : decode (yB m_X1_stroke) 94 = .ok (.getfield 12, 3) := by decide +kernel
theorem d_X1_stroke_97 : decode (yB m_X1_stroke) 97 = .ok (.aload_n 0, 1) := by decide +kernel
theorem d_X1_stroke_98 : decode (yB m_X1_stroke) 98 = .ok (.getfield 12, 3) := by decide +kernel
theorem d_X1_stroke_101 : decode (yB m_X1_stroke) 101 = .ok (.getfield 97, 3) := by decide +kernel
theorem d_X1_stroke_104 : decode (yB m_X1_stroke) 104 = .ok (.iconst 1, 1) := by decide +kernel
theorem d_X1_stroke_105 : decode (yB m_X1_stroke) 105 = .ok (.isub, 1) := by decide +kernel
theorem d_X1_stroke_106 : decode (yB m_X1_stroke) 106 = .ok (.invokevirtual 111, 3) := by decide +kernel
theorem d_X1_stroke_109 : decode (yB m_X1_stroke) 109 = .ok (.istore 5, 2) := by decide +kernel
theorem d_X1_stroke_111 : decode (yB m_X1_stroke) 111 = .ok (.iconst 0, 1) := by decide +kernel
theorem d_X1_stroke_112 : decode (yB m_X1_stroke) 112 = .ok (.istore 6, 2) := by decide +kernel
theorem d_X1_stroke_114 : decode (yB m_X1_stroke) 114 = .ok (.iload 6, 2) := by decide +kernel
theorem d_X1_stroke_116 : decode (yB m_X1_stroke) 116 = .ok (.iload 4, 2) := by decide +kernel
theorem d_X1_stroke_118 : decode (yB m_X1_stroke) 118 = .ok (.if_icmp .ge 53, 3) := by decide +kernel
theorem d_X1_stroke_121 : decode (yB m_X1_stroke) 121 = .ok (.iload 5, 2) := by decide +kernel
theorem d_X1_stroke_123 : decode (yB m_X1_stroke) 123 = .ok (.iload_n 1, 1) := by decide +kernel
theorem d_X1_stroke_124 : decode (yB m_X1_stroke) 124 = .ok (.ifCond .eq 22, 3) := by decide +kernel
theorem d_X1_stroke_127 : decode (yB m_X1_stroke) 127 = .ok (.iconst 1, 1) := by decide +kernel
theorem d_X1_stroke_128 : decode (yB m_X1_stroke) 128 = .ok (.aload_n 0, 1) := by decide +kernel
theorem d_X1_stroke_129 : decode (yB m_X1_stroke) 129 = .ok (.getfield 12, 3) := by decide +kernel
theorem d_X1_stroke_132 : decode (yB m_X1_stroke) 132 = .ok (.getfield 105, 3) := by decide +kernel
theorem d_X1_stroke_135 : decode (yB m_X1_stroke) 135 = .ok (.iload_n 3, 1) := by decide +kernel
theorem d_X1_stroke_136 : decode (yB m_X1_stroke) 136 = .ok (.imul, 1) := by decide +kernel
theorem d_X1_stroke_137 : decode (yB m_X1_stroke) 137 = .ok (.iload_n 2, 1) := by decide +kernel
theorem d_X1_stroke_138 : decode (yB m_X1_stroke) 138 = .ok (.iadd, 1) := by decide +kernel
theorem d_X1_stroke_139 : decode (yB m_X1_stroke) 139 = .ok (.iload 6, 2) := by decide +kernel
theorem d_X1_stroke_141 : decode (yB m_X1_stroke) 141 = .ok (.iadd, 1) := by decide +kernel
theorem d_X1_stroke_142 : decode (yB m_X1_stroke) 142 = .ok (.ishl, 1) := by decide +kernel
theorem d_X1_stroke_143 : decode (yB m_X1_stroke) 143 = .ok (.goto 19, 3) := by decide +kernel
theorem d_X1_stroke_146 : decode (yB m_X1_stroke) 146 = .ok (.iconst 1, 1) := by decide +kernel
theorem d_X1_stroke_147 : decode (yB m_X1_stroke) 147 = .ok (.aload_n 0, 1) := by decide +kernel
theorem d_X1_stroke_148 : decode (yB m_X1_stroke) 148 = .ok (.getfield 12, 3) := by decide +kernel
theorem d_X1_stroke_151 : decode (yB m_X1_stroke) 151 = .ok (.getfield 105, 3) := by decide +kernel
theorem d_X1_stroke_154 : decode (yB m_X1_stroke) 154 = .ok (.iload_n 3, 1) := by decide +kernel
theorem d_X1_stroke_155 : decode (yB m_X1_stroke) 155 = .ok (.iload 6, 2) := by decide +kernel
theorem d_X1_stroke_157 : decode (yB m_X1_stroke) 157 = .ok (.iadd, 1) := by decide +kernel
theorem d_X1_stroke_158 : decode (yB m_X1_stroke) 158 = .ok (.imul, 1) := by decide +kernel
theorem d_X1_stroke_159 : decode (yB m_X1_stroke) 159 = .ok (.iload_n 2, 1) := by decide +kernel
theorem d_X1_stroke_160 : decode (yB m_X1_stroke) 160 = .ok (.iadd, 1) := by decide +kernel
theorem d_X1_stroke_161 : decode (yB m_X1_stroke) 161 = .ok (.ishl, 1) := by decide +kernel
theorem d_X1_stroke_162 : decode (yB m_X1_stroke) 162 = .ok (.ior, 1) := by decide +kernel
theorem d_X1_stroke_163 : decode (yB m_X1_stroke) 163 = .ok (.istore 5, 2) := by decide +kernel
theorem d_X1_stroke_165 : decode (yB m_X1_stroke) 165 = .ok (.iinc 6 1, 3) := by decide +kernel
theorem d_X1_stroke_168 : decode (yB m_X1_stroke) 168 = .ok (.goto (-54), 3) := by decide +kernel
theorem d_X1_stroke_171 : decode (yB m_X1_stroke) 171 = .ok (.aload_n 0, 1) := by decide +kernel
theorem d_X1_stroke_172 : decode (yB m_X1_stroke) 172 = .ok (.getfield 12, 3) := by decide +kernel
theorem d_X1_stroke_175 : decode (yB m_X1_stroke) 175 = .ok (.iload 5, 2) := by decide +kernel
theorem d_X1_stroke_177 : decode (yB m_X1_stroke) 177 = .ok (.invokevirtual 115, 3) := by decide +kernel
theorem d_X1_stroke_180 : decode (yB m_X1_stroke) 180 = .ok (.iconst 1, 1) := by decide +kernel
theorem d_X1_stroke_181 : decode (yB m_X1_stroke) 181 = .ok (.ireturn, 1) := by decide +kernel
def fn_X1_stroke_114 (v1 : Int32) : Nat → Int32 → Int32 → Int32 → Int32 → Int32 → zD → Option (Int32 × zD)
  | 0, _, _, _, _, _, _ => none
  | n + 1, v2, v3, v4, v5, v6, D => (if v4 ≤ v6 then ((fn_X0_setLatest 12 v5 D).bind fun D10 => (some ((1 : Int32), D10))) else ((if v1 = 0 then (zlet (v5 ||| ((1 : Int32) <<< ((((gI D 12 0) * (v3 + v6)) + v2) &&& 31))) fun x12 => ((fn_X1_stroke_114 v1 n) v2 v3 v4 x12 (v6 + (1 : Int32)) D)) else (zlet (v5 ||| ((1 : Int32) <<< (((((gI D 12 0) * v3) + v2) + v6) &&& 31))) fun x13 => ((fn_X1_stroke_114 v1 n) v2 v3 v4 x13 (v6 + (1 : Int32)) D)))))
def fn_X1_stroke_80 (v1 : Int32) (v2 : Int32) (v3 : Int32) (w1 : Int32) (w2 : Int32) (D : zD) : Option (Int32 × zD) := (fn_X8_number w1 w2 D).bind fun q6 => (if q6.1 = (-1 : Int32) then ((some ((0 : Int32), q6.2))) else ((fn_X0_paintOf 12 ((gI q6.2 12 2) - (1 : Int32)) q6.2).bind fun x8 => (fn_X1_stroke_114 v1 zFU v2 v3 q6.1 x8 (0 : Int32) q6.2)))
def fn_X1_stroke (v1 : Int32) (D : zD) : Option (Int32 × zD) := (fn_X8_number (0 : Int32) ((gI D 12 0) - (1 : Int32)) D).bind fun q1 => (if q1.1 = (-1 : Int32) then ((some ((0 : Int32), q1.2))) else ((fn_X8_number (0 : Int32) ((gI q1.2 12 1) - (1 : Int32)) q1.2).bind fun q3 => (if q3.1 = (-1 : Int32) then ((some ((0 : Int32), q3.2))) else ((if v1 = 0 then ((fn_X1_stroke_80 v1 q1.1 q3.1 (1 : Int32) ((gI q3.2 12 1) - q3.1) q3.2)) else ((fn_X1_stroke_80 v1 q1.1 q3.1 (1 : Int32) ((gI q3.2 12 0) - q1.1) q3.2)))))))
theorem s_X1_stroke_114 {X : zX} {Sh : zSh} {d : Nat} (hst : (zl X).stackTraces = false) (h0 : zSh0 Sh) (hd : 2 ≤ d) {v1 : Int32} : ∀ (n : Nat) (v2 : Int32) (v3 : Int32) (v4 : Int32) (v5 : Int32) (v6 : Int32) (D : zD) , Rn X m_X1_stroke (d + 1) 114 [(0, .ref 11), (1, .int v1), (2, .int v2), (3, .int v3), (4, .int v4), (5, .int v5), (6, .int v6)] [] (Sh, D) ((oI Sh) (fn_X1_stroke_114 v1 n v2 v3 v4 v5 v6 D)) := by
  intro n
  induction n with
  | zero => intro v2 v3 v4 v5 v6 D; exact Rn_none rfl
  | succ n hk114 =>
    intro v2 v3 v4 v5 v6 D
    rw [fn_X1_stroke_114]
    refine r_iload (pc := 114) 6 d_X1_stroke_114 rfl ?_
    refine r_iload (pc := 116) 4 d_X1_stroke_116 rfl ?_
    refine r_icmp_ge (f := (oI Sh)) (pc := 118) 171 d_X1_stroke_118 (by decide) (fun c9 => ?_) (fun c9 => ?_)
    · refine r_aload_n (pc := 171) 0 d_X1_stroke_171 rfl rfl ?_
      refine r_getR (pc := 172) g_X1_12 (K_11 h0) rfl (R_11_1 h0) d_X1_stroke_172 ?_
      refine r_iload (pc := 175) 5 d_X1_stroke_175 rfl ?_
      refine q_cV (f := (oI Sh)) (av := [.ref 12, .int v5]) (st := []) (z_runV ck_X0_setLatest rfl ml_X1_115 ci_X0_setLatest cv_X0_setLatest (K_12 h0) (ci := 0) rfl rfl (Nat.le_of_ble_eq_true rfl) d_X1_stroke_177) (s_X0_setLatest hst h0 (by omega) (I_12)) kp_I (fun D10 _ => ?_)
      refine r_iconst (pc := 180) (1 : Int32) d_X1_stroke_180 rfl ?_
      exact r_zret (pc := 181) rfl (by decide) d_X1_stroke_181
    · refine r_iload (pc := 121) 5 d_X1_stroke_121 rfl ?_
      refine r_iload_n (pc := 123) 1 d_X1_stroke_123 rfl rfl ?_
      refine r_if_eq (f := (oI Sh)) (pc := 124) 146 d_X1_stroke_124 (by decide) (fun c11 => ?_) (fun c11 => ?_)
      · refine r_iconst (pc := 146) (1 : Int32) d_X1_stroke_146 rfl ?_
        refine r_aload_n (pc := 147) 0 d_X1_stroke_147 rfl rfl ?_
        refine r_getR (pc := 148) g_X1_12 (K_11 h0) rfl (R_11_1 h0) d_X1_stroke_148 ?_
        refine q_gIn (pc := 151) g_X1_105 (K_12 h0) rfl d_X1_stroke_151 ?_
        refine r_iload_n (pc := 154) 3 d_X1_stroke_154 rfl rfl ?_
        refine r_iload (pc := 155) 6 d_X1_stroke_155 rfl ?_
        refine r_iadd (pc := 157) d_X1_stroke_157 ?_
        refine r_imul (pc := 158) d_X1_stroke_158 ?_
        refine r_iload_n (pc := 159) 2 d_X1_stroke_159 rfl rfl ?_
        refine r_iadd (pc := 160) d_X1_stroke_160 ?_
        refine r_ishl (pc := 161) d_X1_stroke_161 ?_
        refine r_ior (pc := 162) d_X1_stroke_162 ?_
        refine r_leti (f := (oI Sh)) (fun x12 => ?_)
        refine r_istore (pc := 163) (ls' := [(5, .int x12), (0, .ref 11), (1, .int v1), (2, .int v2), (3, .int v3), (4, .int v4), (6, .int v6)]) d_X1_stroke_163 (Nat.le_of_ble_eq_true rfl) rfl ?_
        refine r_iinc (pc := 165) ((v6 + (1 : Int32))) 6 (ls' := [(6, .int (v6 + (1 : Int32))), (5, .int x12), (0, .ref 11), (1, .int v1), (2, .int v2), (3, .int v3), (4, .int v4)]) d_X1_stroke_165 rfl rfl (Nat.le_of_ble_eq_true rfl) rfl ?_
        refine r_goto (pc := 168) 114 d_X1_stroke_168 (by decide) ?_
        refine r_pick [2, 3, 4, 5, 6, 1, 0] (ls' := [(0, .ref 11), (1, .int v1), (2, .int v2), (3, .int v3), (4, .int v4), (5, .int x12), (6, .int (v6 + (1 : Int32)))]) rfl ?_
        exact hk114 v2 v3 v4 x12 (v6 + (1 : Int32)) D 
      · refine r_iconst (pc := 127) (1 : Int32) d_X1_stroke_127 rfl ?_
        refine r_aload_n (pc := 128) 0 d_X1_stroke_128 rfl rfl ?_
        refine r_getR (pc := 129) g_X1_12 (K_11 h0) rfl (R_11_1 h0) d_X1_stroke_129 ?_
        refine q_gIn (pc := 132) g_X1_105 (K_12 h0) rfl d_X1_stroke_132 ?_
        refine r_iload_n (pc := 135) 3 d_X1_stroke_135 rfl rfl ?_
        refine r_imul (pc := 136) d_X1_stroke_136 ?_
        refine r_iload_n (pc := 137) 2 d_X1_stroke_137 rfl rfl ?_
        refine r_iadd (pc := 138) d_X1_stroke_138 ?_
        refine r_iload (pc := 139) 6 d_X1_stroke_139 rfl ?_
        refine r_iadd (pc := 141) d_X1_stroke_141 ?_
        refine r_ishl (pc := 142) d_X1_stroke_142 ?_
        refine r_goto (pc := 143) 162 d_X1_stroke_143 (by decide) ?_
        refine r_ior (pc := 162) d_X1_stroke_162 ?_
        refine r_leti (f := (oI Sh)) (fun x13 => ?_)
        refine r_istore (pc := 163) (ls' := [(5, .int x13), (0, .ref 11), (1, .int v1), (2, .int v2), (3, .int v3), (4, .int v4), (6, .int v6)]) d_X1_stroke_163 (Nat.le_of_ble_eq_true rfl) rfl ?_
        refine r_iinc (pc := 165) ((v6 + (1 : Int32))) 6 (ls' := [(6, .int (v6 + (1 : Int32))), (5, .int x13), (0, .ref 11), (1, .int v1), (2, .int v2), (3, .int v3), (4, .int v4)]) d_X1_stroke_165 rfl rfl (Nat.le_of_ble_eq_true rfl) rfl ?_
        refine r_goto (pc := 168) 114 d_X1_stroke_168 (by decide) ?_
        refine r_pick [2, 3, 4, 5, 6, 1, 0] (ls' := [(0, .ref 11), (1, .int v1), (2, .int v2), (3, .int v3), (4, .int v4), (5, .int x13), (6, .int (v6 + (1 : Int32)))]) rfl ?_
        exact hk114 v2 v3 v4 x13 (v6 + (1 : Int32)) D 
theorem s_X1_stroke_80 {X : zX} {Sh : zSh} {d : Nat} (hst : (zl X).stackTraces = false) (h0 : zSh0 Sh) (hd : 2 ≤ d) {v1 : Int32} (v2 : Int32) (v3 : Int32) (w1 : Int32) (w2 : Int32) (D : zD)  : Rn X m_X1_stroke (d + 1) 80 [(0, .ref 11), (1, .int v1), (2, .int v2), (3, .int v3)] [.int w2, .int w1, .ref 2] (Sh, D) ((oI Sh) (fn_X1_stroke_80 v1 v2 v3 w1 w2 D)) := by
  rw [fn_X1_stroke_80]
  refine q_cI (f := (oI Sh)) (av := [.ref 2, .int w1, .int w2]) (st := []) (z_runV ck_X8_number rfl ml_X1_101 ci_X8_number cv_X8_number (K_2 h0) (ci := 8) rfl rfl (Nat.le_of_ble_eq_true rfl) d_X1_stroke_80) (s_X8_number hst h0 (by omega)) kp_I (fun q6 _ => ?_)
  refine r_istore (pc := 83) (ls' := [(4, .int q6.1), (0, .ref 11), (1, .int v1), (2, .int v2), (3, .int v3)]) d_X1_stroke_83 (Nat.le_of_ble_eq_true rfl) rfl ?_
  refine r_iload (pc := 85) 0 d_X1_stroke_85 rfl ?_
  refine r_iconst (pc := 87) (-1 : Int32) d_X1_stroke_87 rfl ?_
  refine r_icmp_ne (f := (oI Sh)) (pc := 88) 93 d_X1_stroke_88 (by decide) (fun c7 => ?_) (fun c7 => ?_)
  · refine r_aload_n (pc := 93) 1 d_X1_stroke_93 rfl rfl ?_
    refine r_getR (pc := 94) g_X1_12 (K_11 h0) rfl (R_11_1 h0) d_X1_stroke_94 ?_
    refine r_aload_n (pc := 97) 1 d_X1_stroke_97 rfl rfl ?_
    refine r_getR (pc := 98) g_X1_12 (K_11 h0) rfl (R_11_1 h0) d_X1_stroke_98 ?_
    refine q_gIn (pc := 101) g_X1_97 (K_12 h0) rfl d_X1_stroke_101 ?_
    refine r_iconst (pc := 104) (1 : Int32) d_X1_stroke_104 rfl ?_
    refine r_isub (pc := 105) d_X1_stroke_105 ?_
    refine q_cP (f := (oI Sh)) (av := [.ref 12, .int ((gI q6.2 12 2) - (1 : Int32))]) (st := []) (z_runV ck_X0_paintOf rfl ml_X1_111 ci_X0_paintOf cv_X0_paintOf (K_12 h0) (ci := 0) rfl rfl (Nat.le_of_ble_eq_true rfl) d_X1_stroke_106) (s_X0_paintOf hst h0 (by omega) (I_12)) kp_I (fun x8 _ => ?_)
    refine r_istore (pc := 109) (ls' := [(5, .int x8), (4, .int q6.1), (0, .ref 11), (1, .int v1), (2, .int v2), (3, .int v3)]) d_X1_stroke_109 (Nat.le_of_ble_eq_true rfl) rfl ?_
    refine r_iconst (pc := 111) (0 : Int32) d_X1_stroke_111 rfl ?_
    refine r_istore (pc := 112) (ls' := [(6, .int (0 : Int32)), (5, .int x8), (4, .int q6.1), (0, .ref 11), (1, .int v1), (2, .int v2), (3, .int v3)]) d_X1_stroke_112 (Nat.le_of_ble_eq_true rfl) rfl ?_
    refine r_pick [3, 4, 5, 6, 2, 1, 0] (ls' := [(0, .ref 11), (1, .int v1), (2, .int v2), (3, .int v3), (4, .int q6.1), (5, .int x8), (6, .int (0 : Int32))]) rfl ?_
    exact s_X1_stroke_114 hst h0 hd zFU  v2 v3 q6.1 x8 (0 : Int32) q6.2
  · refine r_iconst (pc := 91) (0 : Int32) d_X1_stroke_91 rfl ?_
    exact r_zret (pc := 92) rfl (by decide) d_X1_stroke_92
theorem s_X1_stroke {X : zX} {Sh : zSh} {d : Nat} (hst : (zl X).stackTraces = false) (h0 : zSh0 Sh) (hd : 3 ≤ d) {v1 : Int32} {D : zD} : Sd X m_X1_stroke d [.ref 11, .int v1] (Sh, D) ((oI Sh) (fn_X1_stroke v1 D)) := by
  obtain ⟨d, rfl⟩ : ∃ e, d = e + 1 := ⟨d - 1, by omega⟩
  replace hd : 2 ≤ d := by omega
  refine z_body ck_X1_stroke rfl (Nat.le_of_ble_eq_true rfl) rfl hst ?_
  rw [fn_X1_stroke]
  show Rn X m_X1_stroke (d + 1) 0 [(0, .ref 11), (1, .int v1)] [] (Sh, D) _
  refine r_aload_n (pc := 0) 0 d_X1_stroke_0 rfl rfl ?_
  refine r_getR (pc := 1) g_X1_18 (K_11 h0) rfl (R_11_0 h0) d_X1_stroke_1 ?_
  refine r_iconst (pc := 4) (0 : Int32) d_X1_stroke_4 rfl ?_
  refine r_aload_n (pc := 5) 0 d_X1_stroke_5 rfl rfl ?_
  refine r_getR (pc := 6) g_X1_12 (K_11 h0) rfl (R_11_1 h0) d_X1_stroke_6 ?_
  refine q_gIn (pc := 9) g_X1_105 (K_12 h0) rfl d_X1_stroke_9 ?_
  refine r_iconst (pc := 12) (1 : Int32) d_X1_stroke_12 rfl ?_
  refine r_isub (pc := 13) d_X1_stroke_13 ?_
  refine q_cI (f := (oI Sh)) (av := [.ref 2, .int (0 : Int32), .int ((gI D 12 0) - (1 : Int32))]) (st := []) (z_runV ck_X8_number rfl ml_X1_101 ci_X8_number cv_X8_number (K_2 h0) (ci := 8) rfl rfl (Nat.le_of_ble_eq_true rfl) d_X1_stroke_14) (s_X8_number hst h0 (by omega)) kp_I (fun q1 _ => ?_)
  refine r_istore_n (pc := 17) (ls' := [(2, .int q1.1), (0, .ref 11), (1, .int v1)]) d_X1_stroke_17 rfl (Nat.le_of_ble_eq_true rfl) rfl ?_
  refine r_iload_n (pc := 18) 0 d_X1_stroke_18 rfl rfl ?_
  refine r_iconst (pc := 19) (-1 : Int32) d_X1_stroke_19 rfl ?_
  refine r_icmp_ne (f := (oI Sh)) (pc := 20) 25 d_X1_stroke_20 (by decide) (fun c2 => ?_) (fun c2 => ?_)
  · refine r_aload_n (pc := 25) 1 d_X1_stroke_25 rfl rfl ?_
    refine r_getR (pc := 26) g_X1_18 (K_11 h0) rfl (R_11_0 h0) d_X1_stroke_26 ?_
    refine r_iconst (pc := 29) (0 : Int32) d_X1_stroke_29 rfl ?_
    refine r_aload_n (pc := 30) 1 d_X1_stroke_30 rfl rfl ?_
    refine r_getR (pc := 31) g_X1_12 (K_11 h0) rfl (R_11_1 h0) d_X1_stroke_31 ?_
    refine q_gIn (pc := 34) g_X1_108 (K_12 h0) rfl d_X1_stroke_34 ?_
    refine r_iconst (pc := 37) (1 : Int32) d_X1_stroke_37 rfl ?_
    refine r_isub (pc := 38) d_X1_stroke_38 ?_
    refine q_cI (f := (oI Sh)) (av := [.ref 2, .int (0 : Int32), .int ((gI q1.2 12 1) - (1 : Int32))]) (st := []) (z_runV ck_X8_number rfl ml_X1_101 ci_X8_number cv_X8_number (K_2 h0) (ci := 8) rfl rfl (Nat.le_of_ble_eq_true rfl) d_X1_stroke_39) (s_X8_number hst h0 (by omega)) kp_I (fun q3 _ => ?_)
    refine r_istore_n (pc := 42) (ls' := [(3, .int q3.1), (2, .int q1.1), (0, .ref 11), (1, .int v1)]) d_X1_stroke_42 rfl (Nat.le_of_ble_eq_true rfl) rfl ?_
    refine r_iload_n (pc := 43) 0 d_X1_stroke_43 rfl rfl ?_
    refine r_iconst (pc := 44) (-1 : Int32) d_X1_stroke_44 rfl ?_
    refine r_icmp_ne (f := (oI Sh)) (pc := 45) 50 d_X1_stroke_45 (by decide) (fun c4 => ?_) (fun c4 => ?_)
    · refine r_aload_n (pc := 50) 2 d_X1_stroke_50 rfl rfl ?_
      refine r_getR (pc := 51) g_X1_18 (K_11 h0) rfl (R_11_0 h0) d_X1_stroke_51 ?_
      refine r_iconst (pc := 54) (1 : Int32) d_X1_stroke_54 rfl ?_
      refine r_iload_n (pc := 55) 3 d_X1_stroke_55 rfl rfl ?_
      refine r_if_eq (f := (oI Sh)) (pc := 56) 71 d_X1_stroke_56 (by decide) (fun c5 => ?_) (fun c5 => ?_)
      · refine r_aload_n (pc := 71) 2 d_X1_stroke_71 rfl rfl ?_
        refine r_getR (pc := 72) g_X1_12 (K_11 h0) rfl (R_11_1 h0) d_X1_stroke_72 ?_
        refine q_gIn (pc := 75) g_X1_108 (K_12 h0) rfl d_X1_stroke_75 ?_
        refine r_iload_n (pc := 78) 0 d_X1_stroke_78 rfl rfl ?_
        refine r_isub (pc := 79) d_X1_stroke_79 ?_
        refine r_pick [2, 3, 1, 0] (ls' := [(0, .ref 11), (1, .int v1), (2, .int q1.1), (3, .int q3.1)]) rfl ?_
        exact s_X1_stroke_80 hst h0 hd q1.1 q3.1 (1 : Int32) ((gI q3.2 12 1) - q3.1) q3.2
      · refine r_aload_n (pc := 59) 2 d_X1_stroke_59 rfl rfl ?_
        refine r_getR (pc := 60) g_X1_12 (K_11 h0) rfl (R_11_1 h0) d_X1_stroke_60 ?_
        refine q_gIn (pc := 63) g_X1_105 (K_12 h0) rfl d_X1_stroke_63 ?_
        refine r_iload_n (pc := 66) 1 d_X1_stroke_66 rfl rfl ?_
        refine r_isub (pc := 67) d_X1_stroke_67 ?_
        refine r_goto (pc := 68) 80 d_X1_stroke_68 (by decide) ?_
        refine r_pick [2, 3, 1, 0] (ls' := [(0, .ref 11), (1, .int v1), (2, .int q1.1), (3, .int q3.1)]) rfl ?_
        exact s_X1_stroke_80 hst h0 hd q1.1 q3.1 (1 : Int32) ((gI q3.2 12 0) - q1.1) q3.2
    · refine r_iconst (pc := 48) (0 : Int32) d_X1_stroke_48 rfl ?_
      exact r_zret (pc := 49) rfl (by decide) d_X1_stroke_49
  · refine r_iconst (pc := 23) (0 : Int32) d_X1_stroke_23 rfl ?_
    exact r_zret (pc := 24) rfl (by decide) d_X1_stroke_24
/-! CoveredSigns$AlphabetText.clause -/
theorem d_X1_clause_0 : decode (yB m_X1_clause) 0 = .ok (.aload_n 0, 1) := by decide +kernel
theorem d_X1_clause_1 : decode (yB m_X1_clause) 1 = .ok (.getfield 18, 3) := by decide +kernel
theorem d_X1_clause_4 : decode (yB m_X1_clause) 4 = .ok (.invokevirtual 39, 3) := by decide +kernel
theorem d_X1_clause_7 : decode (yB m_X1_clause) 7 = .ok (.istore_n 2, 1) := by decide +kernel
theorem d_X1_clause_8 : decode (yB m_X1_clause) 8 = .ok (.aload_n 0, 1) := by decide +kernel
theorem d_X1_clause_9 : decode (yB m_X1_clause) 9 = .ok (.getfield 18, 3) := by decide +kernel
theorem d_X1_clause_12 : decode (yB m_X1_clause) 12 = .ok (.ldc 43, 2) := by decide +kernel
theorem d_X1_clause_14 : decode (yB m_X1_clause) 14 = .ok (.invokevirtual 45, 3) := by decide +kernel
theorem d_X1_clause_17 : decode (yB m_X1_clause) 17 = .ok (.ifCond .eq 27, 3) := by decide +kernel
theorem d_X1_clause_20 : decode (yB m_X1_clause) 20 = .ok (.aload_n 0, 1) := by decide +kernel
theorem d_X1_clause_21 : decode (yB m_X1_clause) 21 = .ok (.iload_n 1, 1) := by decide +kernel
theorem d_X1_clause_22 : decode (yB m_X1_clause) 22 = .ok (.iload_n 2, 1) := by decide +kernel
theorem d_X1_clause_23 : decode (yB m_X1_clause) 23 = .ok (.invokevirtual 49, 3) := by decide +kernel
theorem d_X1_clause_26 : decode (yB m_X1_clause) 26 = .ok (.ifCond .eq 16, 3) := by decide +kernel
theorem d_X1_clause_29 : decode (yB m_X1_clause) 29 = .ok (.aload_n 0, 1) := by decide +kernel
theorem d_X1_clause_30 : decode (yB m_X1_clause) 30 = .ok (.iload_n 1, 1) := by decide +kernel
theorem d_X1_clause_31 : decode (yB m_X1_clause) 31 = .ok (.iload_n 2, 1) := by decide +kernel
theorem d_X1_clause_32 : decode (yB m_X1_clause) 32 = .ok (.invokevirtual 53, 3) := by decide +kernel
theorem d_X1_clause_35 : decode (yB m_X1_clause) 35 = .ok (.ifCond .eq 7, 3) := by decide +kernel
theorem d_X1_clause_38 : decode (yB m_X1_clause) 38 = .ok (.iconst 1, 1) := by decide +kernel
theorem d_X1_clause_39 : decode (yB m_X1_clause) 39 = .ok (.goto 4, 3) := by decide +kernel
theorem d_X1_clause_42 : decode (yB m_X1_clause) 42 = .ok (.iconst 0, 1) := by decide +kernel
theorem d_X1_clause_43 : decode (yB m_X1_clause) 43 = .ok (.ireturn, 1) := by decide +kernel
theorem d_X1_clause_44 : decode (yB m_X1_clause) 44 = .ok (.aload_n 0, 1) := by decide +kernel
theorem d_X1_clause_45 : decode (yB m_X1_clause) 45 = .ok (.getfield 18, 3) := by decide +kernel
theorem d_X1_clause_48 : decode (yB m_X1_clause) 48 = .ok (.ldc 56, 2) := by decide +kernel
theorem d_X1_clause_50 : decode (yB m_X1_clause) 50 = .ok (.invokevirtual 45, 3) := by decide +kernel
theorem d_X1_clause_53 : decode (yB m_X1_clause) 53 = .ok (.ifCond .eq 41, 3) := by decide +kernel
theorem d_X1_clause_56 : decode (yB m_X1_clause) 56 = .ok (.aload_n 0, 1) := by decide +kernel
theorem d_X1_clause_57 : decode (yB m_X1_clause) 57 = .ok (.iload_n 1, 1) := by decide +kernel
theorem d_X1_clause_58 : decode (yB m_X1_clause) 58 = .ok (.iload_n 2, 1) := by decide +kernel
theorem d_X1_clause_59 : decode (yB m_X1_clause) 59 = .ok (.invokevirtual 49, 3) := by decide +kernel
theorem d_X1_clause_62 : decode (yB m_X1_clause) 62 = .ok (.ifCond .eq 30, 3) := by decide +kernel
theorem d_X1_clause_65 : decode (yB m_X1_clause) 65 = .ok (.aload_n 0, 1) := by decide +kernel
theorem d_X1_clause_66 : decode (yB m_X1_clause) 66 = .ok (.getfield 12, 3) := by decide +kernel
theorem d_X1_clause_69 : decode (yB m_X1_clause) 69 = .ok (.iconst 0, 1) := by decide +kernel
theorem d_X1_clause_70 : decode (yB m_X1_clause) 70 = .ok (.invokevirtual 58, 3) := by decide +kernel
theorem d_X1_clause_73 : decode (yB m_X1_clause) 73 = .ok (.ifCond .ne 15, 3) := by decide +kernel
theorem d_X1_clause_76 : decode (yB m_X1_clause) 76 = .ok (.aload_n 0, 1) := by decide +kernel
theorem d_X1_clause_77 : decode (yB m_X1_clause) 77 = .ok (.getfield 18, 3) := by decide +kernel
theorem d_X1_clause_80 : decode (yB m_X1_clause) 80 = .ok (.iconst 3, 1) := by decide +kernel
theorem d_X1_clause_81 : decode (yB m_X1_clause) 81 = .ok (.iload_n 2, 1) := by decide +kernel
theorem d_X1_clause_82 : decode (yB m_X1_clause) 82 = .ok (.invokevirtual 61, 3) := by decide +kernel
theorem d_X1_clause_85 : decode (yB m_X1_clause) 85 = .ok (.ifCond .eq 7, 3) := by decide +kernel
theorem d_X1_clause_88 : decode (yB m_X1_clause) 88 = .ok (.iconst 1, 1) := by decide +kernel
theorem d_X1_clause_89 : decode (yB m_X1_clause) 89 = .ok (.goto 4, 3) := by decide +kernel
theorem d_X1_clause_92 : decode (yB m_X1_clause) 92 = .ok (.iconst 0, 1) := by decide +kernel
theorem d_X1_clause_93 : decode (yB m_X1_clause) 93 = .ok (.ireturn, 1) := by decide +kernel
theorem d_X1_clause_94 : decode (yB m_X1_clause) 94 = .ok (.aload_n 0, 1) := by decide +kernel
theorem d_X1_clause_95 : decode (yB m_X1_clause) 95 = .ok (.getfield 18, 3) := by decide +kernel
theorem d_X1_clause_98 : decode (yB m_X1_clause) 98 = .ok (.ldc 64, 2) := by decide +kernel
theorem d_X1_clause_100 : decode (yB m_X1_clause) 100 = .ok (.invokevirtual 45, 3) := by decide +kernel
theorem d_X1_clause_103 : decode (yB m_X1_clause) 103 = .ok (.ifCond .eq 34, 3) := by decide +kernel
theorem d_X1_clause_106 : decode (yB m_X1_clause) 106 = .ok (.aload_n 0, 1) := by decide +kernel
theorem d_X1_clause_107 : decode (yB m_X1_clause) 107 = .ok (.iload_n 2, 1) := by decide +kernel
theorem d_X1_clause_108 : decode (yB m_X1_clause) 108 = .ok (.invokevirtual 66, 3) := by decide +kernel
theorem d_X1_clause_111 : decode (yB m_X1_clause) 111 = .ok (.ifCond .eq 24, 3) := by decide +kernel
theorem d_X1_clause_114 : decode (yB m_X1_clause) 114 = .ok (.aload_n 0, 1) := by decide +kernel
theorem d_X1_clause_115 : decode (yB m_X1_clause) 115 = .ok (.iload_n 1, 1) := by decide +kernel
theorem d_X1_clause_116 : decode (yB m_X1_clause) 116 = .ok (.iload_n 2, 1) := by decide +kernel
theorem d_X1_clause_117 : decode (yB m_X1_clause) 117 = .ok (.invokevirtual 49, 3) := by decide +kernel
theorem d_X1_clause_120 : decode (yB m_X1_clause) 120 = .ok (.ifCond .eq 15, 3) := by decide +kernel
theorem d_X1_clause_123 : decode (yB m_X1_clause) 123 = .ok (.aload_n 0, 1) := by decide +kernel
theorem d_X1_clause_124 : decode (yB m_X1_clause) 124 = .ok (.iconst 1, 1) := by decide +kernel
theorem d_X1_clause_125 : decode (yB m_X1_clause) 125 = .ok (.invokevirtual 69, 3) := by decide +kernel
theorem d_X1_clause_128 : decode (yB m_X1_clause) 128 = .ok (.ifCond .eq 7, 3) := by decide +kernel
theorem d_X1_clause_131 : decode (yB m_X1_clause) 131 = .ok (.iconst 1, 1) := by decide +kernel
theorem d_X1_clause_132 : decode (yB m_X1_clause) 132 = .ok (.goto 4, 3) := by decide +kernel
theorem d_X1_clause_135 : decode (yB m_X1_clause) 135 = .ok (.iconst 0, 1) := by decide +kernel
theorem d_X1_clause_136 : decode (yB m_X1_clause) 136 = .ok (.ireturn, 1) := by decide +kernel
theorem d_X1_clause_137 : decode (yB m_X1_clause) 137 = .ok (.aload_n 0, 1) := by decide +kernel
theorem d_X1_clause_138 : decode (yB m_X1_clause) 138 = .ok (.getfield 18, 3) := by decide +kernel
theorem d_X1_clause_141 : decode (yB m_X1_clause) 141 = .ok (.ldc 73, 2) := by decide +kernel
theorem d_X1_clause_143 : decode (yB m_X1_clause) 143 = .ok (.invokevirtual 45, 3) := by decide +kernel
theorem d_X1_clause_146 : decode (yB m_X1_clause) 146 = .ok (.ifCond .eq 34, 3) := by decide +kernel
theorem d_X1_clause_149 : decode (yB m_X1_clause) 149 = .ok (.aload_n 0, 1) := by decide +kernel
theorem d_X1_clause_150 : decode (yB m_X1_clause) 150 = .ok (.iload_n 2, 1) := by decide +kernel
theorem d_X1_clause_151 : decode (yB m_X1_clause) 151 = .ok (.invokevirtual 66, 3) := by decide +kernel
theorem d_X1_clause_154 : decode (yB m_X1_clause) 154 = .ok (.ifCond .eq 24, 3) := by decide +kernel
theorem d_X1_clause_157 : decode (yB m_X1_clause) 157 = .ok (.aload_n 0, 1) := by decide +kernel
theorem d_X1_clause_158 : decode (yB m_X1_clause) 158 = .ok (.iload_n 1, 1) := by decide +kernel
theorem d_X1_clause_159 : decode (yB m_X1_clause) 159 = .ok (.iload_n 2, 1) := by decide +kernel
theorem d_X1_clause_160 : decode (yB m_X1_clause) 160 = .ok (.invokevirtual 49, 3) := by decide +kernel
theorem d_X1_clause_163 : decode (yB m_X1_clause) 163 = .ok (.ifCond .eq 15, 3) := by decide +kernel
theorem d_X1_clause_166 : decode (yB m_X1_clause) 166 = .ok (.aload_n 0, 1) := by decide +kernel
theorem d_X1_clause_167 : decode (yB m_X1_clause) 167 = .ok (.iconst 0, 1) := by decide +kernel
theorem d_X1_clause_168 : decode (yB m_X1_clause) 168 = .ok (.invokevirtual 69, 3) := by decide +kernel
theorem d_X1_clause_171 : decode (yB m_X1_clause) 171 = .ok (.ifCond .eq 7, 3) := by decide +kernel
theorem d_X1_clause_174 : decode (yB m_X1_clause) 174 = .ok (.iconst 1, 1) := by decide +kernel
theorem d_X1_clause_175 : decode (yB m_X1_clause) 175 = .ok (.goto 4, 3) := by decide +kernel
theorem d_X1_clause_178 : decode (yB m_X1_clause) 178 = .ok (.iconst 0, 1) := by decide +kernel
theorem d_X1_clause_179 : decode (yB m_X1_clause) 179 = .ok (.ireturn, 1) := by decide +kernel
theorem d_X1_clause_180 : decode (yB m_X1_clause) 180 = .ok (.aload_n 0, 1) := by decide +kernel
theorem d_X1_clause_181 : decode (yB m_X1_clause) 181 = .ok (.getfield 18, 3) := by decide +kernel
theorem d_X1_clause_184 : decode (yB m_X1_clause) 184 = .ok (.ldc 75, 2) := by decide +kernel
theorem d_X1_clause_186 : decode (yB m_X1_clause) 186 = .ok (.invokevirtual 45, 3) := by decide +kernel
theorem d_X1_clause_189 : decode (yB m_X1_clause) 189 = .ok (.ifCond .eq 33, 3) := by decide +kernel
theorem d_X1_clause_192 : decode (yB m_X1_clause) 192 = .ok (.aload_n 0, 1) := by decide +kernel
theorem d_X1_clause_193 : decode (yB m_X1_clause) 193 = .ok (.iload_n 2, 1) := by decide +kernel
theorem d_X1_clause_194 : decode (yB m_X1_clause) 194 = .ok (.invokevirtual 66, 3) := by decide +kernel
theorem d_X1_clause_197 : decode (yB m_X1_clause) 197 = .ok (.ifCond .eq 23, 3) := by decide +kernel
theorem d_X1_clause_200 : decode (yB m_X1_clause) 200 = .ok (.aload_n 0, 1) := by decide +kernel
theorem d_X1_clause_201 : decode (yB m_X1_clause) 201 = .ok (.iload_n 1, 1) := by decide +kernel
theorem d_X1_clause_202 : decode (yB m_X1_clause) 202 = .ok (.iload_n 2, 1) := by decide +kernel
theorem d_X1_clause_203 : decode (yB m_X1_clause) 203 = .ok (.invokevirtual 49, 3) := by decide +kernel
theorem d_X1_clause_206 : decode (yB m_X1_clause) 206 = .ok (.ifCond .eq 14, 3) := by decide +kernel
theorem d_X1_clause_209 : decode (yB m_X1_clause) 209 = .ok (.aload_n 0, 1) := by decide +kernel
theorem d_X1_clause_210 : decode (yB m_X1_clause) 210 = .ok (.invokevirtual 77, 3) := by decide +kernel
theorem d_X1_clause_213 : decode (yB m_X1_clause) 213 = .ok (.ifCond .eq 7, 3) := by decide +kernel
theorem d_X1_clause_216 : decode (yB m_X1_clause) 216 = .ok (.iconst 1, 1) := by decide +kernel
theorem d_X1_clause_217 : decode (yB m_X1_clause) 217 = .ok (.goto 4, 3) := by decide +kernel
theorem d_X1_clause_220 : decode (yB m_X1_clause) 220 = .ok (.iconst 0, 1) := by decide +kernel
theorem d_X1_clause_221 : decode (yB m_X1_clause) 221 = .ok (.ireturn, 1) := by decide +kernel
theorem d_X1_clause_222 : decode (yB m_X1_clause) 222 = .ok (.aload_n 0, 1) := by decide +kernel
theorem d_X1_clause_223 : decode (yB m_X1_clause) 223 = .ok (.getfield 18, 3) := by decide +kernel
theorem d_X1_clause_226 : decode (yB m_X1_clause) 226 = .ok (.ldc 79, 2) := by decide +kernel
theorem d_X1_clause_228 : decode (yB m_X1_clause) 228 = .ok (.invokevirtual 45, 3) := by decide +kernel
theorem d_X1_clause_231 : decode (yB m_X1_clause) 231 = .ok (.ifCond .eq 27, 3) := by decide +kernel
theorem d_X1_clause_234 : decode (yB m_X1_clause) 234 = .ok (.aload_n 0, 1) := by decide +kernel
theorem d_X1_clause_235 : decode (yB m_X1_clause) 235 = .ok (.iload_n 1, 1) := by decide +kernel
theorem d_X1_clause_236 : decode (yB m_X1_clause) 236 = .ok (.iload_n 2, 1) := by decide +kernel
theorem d_X1_clause_237 : decode (yB m_X1_clause) 237 = .ok (.invokevirtual 49, 3) := by decide +kernel
theorem d_X1_clause_240 : decode (yB m_X1_clause) 240 = .ok (.ifCond .eq 16, 3) := by decide +kernel
theorem d_X1_clause_243 : decode (yB m_X1_clause) 243 = .ok (.aload_n 0, 1) := by decide +kernel
theorem d_X1_clause_244 : decode (yB m_X1_clause) 244 = .ok (.iload_n 2, 1) := by decide +kernel
theorem d_X1_clause_245 : decode (yB m_X1_clause) 245 = .ok (.iconst 1, 1) := by decide +kernel
theorem d_X1_clause_246 : decode (yB m_X1_clause) 246 = .ok (.invokevirtual 81, 3) := by decide +kernel
theorem d_X1_clause_249 : decode (yB m_X1_clause) 249 = .ok (.ifCond .eq 7, 3) := by decide +kernel
theorem d_X1_clause_252 : decode (yB m_X1_clause) 252 = .ok (.iconst 1, 1) := by decide +kernel
theorem d_X1_clause_253 : decode (yB m_X1_clause) 253 = .ok (.goto 4, 3) := by decide +kernel
theorem d_X1_clause_256 : decode (yB m_X1_clause) 256 = .ok (.iconst 0, 1) := by decide +kernel
theorem d_X1_clause_257 : decode (yB m_X1_clause) 257 = .ok (.ireturn, 1) := by decide +kernel
theorem d_X1_clause_258 : decode (yB m_X1_clause) 258 = .ok (.aload_n 0, 1) := by decide +kernel
theorem d_X1_clause_259 : decode (yB m_X1_clause) 259 = .ok (.getfield 18, 3) := by decide +kernel
theorem d_X1_clause_262 : decode (yB m_X1_clause) 262 = .ok (.ldc 85, 2) := by decide +kernel
theorem d_X1_clause_264 : decode (yB m_X1_clause) 264 = .ok (.invokevirtual 45, 3) := by decide +kernel
theorem d_X1_clause_267 : decode (yB m_X1_clause) 267 = .ok (.ifCond .eq 27, 3) := by decide +kernel
theorem d_X1_clause_270 : decode (yB m_X1_clause) 270 = .ok (.aload_n 0, 1) := by decide +kernel
theorem d_X1_clause_271 : decode (yB m_X1_clause) 271 = .ok (.iload_n 1, 1) := by decide +kernel
theorem d_X1_clause_272 : decode (yB m_X1_clause) 272 = .ok (.iload_n 2, 1) := by decide +kernel
theorem d_X1_clause_273 : decode (yB m_X1_clause) 273 = .ok (.invokevirtual 49, 3) := by decide +kernel
theorem d_X1_clause_276 : decode (yB m_X1_clause) 276 = .ok (.ifCond .eq 16, 3) := by decide +kernel
theorem d_X1_clause_279 : decode (yB m_X1_clause) 279 = .ok (.aload_n 0, 1) := by decide +kernel
theorem d_X1_clause_280 : decode (yB m_X1_clause) 280 = .ok (.iload_n 2, 1) := by decide +kernel
theorem d_X1_clause_281 : decode (yB m_X1_clause) 281 = .ok (.iconst 0, 1) := by decide +kernel
theorem d_X1_clause_282 : decode (yB m_X1_clause) 282 = .ok (.invokevirtual 81, 3) := by decide +kernel
theorem d_X1_clause_285 : decode (yB m_X1_clause) 285 = .ok (.ifCond .eq 7, 3) := by decide +kernel
theorem d_X1_clause_288 : decode (yB m_X1_clause) 288 = .ok (.iconst 1, 1) := by decide +kernel
theorem d_X1_clause_289 : decode (yB m_X1_clause) 289 = .ok (.goto 4, 3) := by decide +kernel
theorem d_X1_clause_292 : decode (yB m_X1_clause) 292 = .ok (.iconst 0, 1) := by decide +kernel
theorem d_X1_clause_293 : decode (yB m_X1_clause) 293 = .ok (.ireturn, 1) := by decide +kernel
theorem d_X1_clause_294 : decode (yB m_X1_clause) 294 = .ok (.aload_n 0, 1) := by decide +kernel
theorem d_X1_clause_295 : decode (yB m_X1_clause) 295 = .ok (.getfield 18, 3) := by decide +kernel
theorem d_X1_clause_298 : decode (yB m_X1_clause) 298 = .ok (.ldc 87, 2) := by decide +kernel
theorem d_X1_clause_300 : decode (yB m_X1_clause) 300 = .ok (.invokevirtual 45, 3) := by decide +kernel
theorem d_X1_clause_303 : decode (yB m_X1_clause) 303 = .ok (.ifCond .eq 25, 3) := by decide +kernel
theorem d_X1_clause_306 : decode (yB m_X1_clause) 306 = .ok (.aload_n 0, 1) := by decide +kernel
theorem d_X1_clause_307 : decode (yB m_X1_clause) 307 = .ok (.iload_n 1, 1) := by decide +kernel
theorem d_X1_clause_308 : decode (yB m_X1_clause) 308 = .ok (.iload_n 2, 1) := by decide +kernel
theorem d_X1_clause_309 : decode (yB m_X1_clause) 309 = .ok (.invokevirtual 49, 3) := by decide +kernel
theorem d_X1_clause_312 : decode (yB m_X1_clause) 312 = .ok (.ifCond .eq 14, 3) := by decide +kernel
theorem d_X1_clause_315 : decode (yB m_X1_clause) 315 = .ok (.aload_n 0, 1) := by decide +kernel
theorem d_X1_clause_316 : decode (yB m_X1_clause) 316 = .ok (.invokevirtual 89, 3) := by decide +kernel
theorem d_X1_clause_319 : decode (yB m_X1_clause) 319 = .ok (.ifCond .eq 7, 3) := by decide +kernel
theorem d_X1_clause_322 : decode (yB m_X1_clause) 322 = .ok (.iconst 1, 1) := by decide +kernel
theorem d_X1_clause_323 : decode (yB m_X1_clause) 323 = .ok (.goto 4, 3) := by decide +kernel
theorem d_X1_clause_326 : decode (yB m_X1_clause) 326 = .ok (.iconst 0, 1) := by decide +kernel
theorem d_X1_clause_327 : decode (yB m_X1_clause) 327 = .ok (.ireturn, 1) := by decide +kernel
theorem d_X1_clause_328 : decode (yB m_X1_clause) 328 = .ok (.aload_n 0, 1) := by decide +kernel
theorem d_X1_clause_329 : decode (yB m_X1_clause) 329 = .ok (.getfield 18, 3) := by decide +kernel
theorem d_X1_clause_332 : decode (yB m_X1_clause) 332 = .ok (.ldc 92, 2) := by decide +kernel
theorem d_X1_clause_334 : decode (yB m_X1_clause) 334 = .ok (.invokevirtual 45, 3) := by decide +kernel
theorem d_X1_clause_337 : decode (yB m_X1_clause) 337 = .ok (.ifCond .eq 26, 3) := by decide +kernel
theorem d_X1_clause_340 : decode (yB m_X1_clause) 340 = .ok (.aload_n 0, 1) := by decide +kernel
theorem d_X1_clause_341 : decode (yB m_X1_clause) 341 = .ok (.iload_n 1, 1) := by decide +kernel
theorem d_X1_clause_342 : decode (yB m_X1_clause) 342 = .ok (.iload_n 2, 1) := by decide +kernel
theorem d_X1_clause_343 : decode (yB m_X1_clause) 343 = .ok (.invokevirtual 49, 3) := by decide +kernel
theorem d_X1_clause_346 : decode (yB m_X1_clause) 346 = .ok (.ifCond .eq 15, 3) := by decide +kernel
theorem d_X1_clause_349 : decode (yB m_X1_clause) 349 = .ok (.aload_n 0, 1) := by decide +kernel
theorem d_X1_clause_350 : decode (yB m_X1_clause) 350 = .ok (.iload_n 2, 1) := by decide +kernel
theorem d_X1_clause_351 : decode (yB m_X1_clause) 351 = .ok (.invokevirtual 94, 3) := by decide +kernel
theorem d_X1_clause_354 : decode (yB m_X1_clause) 354 = .ok (.ifCond .eq 7, 3) := by decide +kernel
theorem d_X1_clause_357 : decode (yB m_X1_clause) 357 = .ok (.iconst 1, 1) := by decide +kernel
theorem d_X1_clause_358 : decode (yB m_X1_clause) 358 = .ok (.goto 4, 3) := by decide +kernel
theorem d_X1_clause_361 : decode (yB m_X1_clause) 361 = .ok (.iconst 0, 1) := by decide +kernel
theorem d_X1_clause_362 : decode (yB m_X1_clause) 362 = .ok (.ireturn, 1) := by decide +kernel
theorem d_X1_clause_363 : decode (yB m_X1_clause) 363 = .ok (.aload_n 0, 1) := by decide +kernel
theorem d_X1_clause_364 : decode (yB m_X1_clause) 364 = .ok (.getfield 18, 3) := by decide +kernel
theorem d_X1_clause_367 : decode (yB m_X1_clause) 367 = .ok (.iconst 1, 1) := by decide +kernel
theorem d_X1_clause_368 : decode (yB m_X1_clause) 368 = .ok (.iload_n 2, 1) := by decide +kernel
theorem d_X1_clause_369 : decode (yB m_X1_clause) 369 = .ok (.invokevirtual 61, 3) := by decide +kernel
theorem d_X1_clause_372 : decode (yB m_X1_clause) 372 = .ok (.ireturn, 1) := by decide +kernel
def fn_X1_clause (v1 : Int32) (D : zD) : Option (Int32 × zD) := (fn_X8_next D).bind fun q1 => (fn_X8_takesWord 0 q1.2).bind fun q2 => (if q2.1 = 0 then ((fn_X8_takesWord 1 q2.2).bind fun q4 => (if q4.1 = 0 then ((fn_X8_takesWord 2 q4.2).bind fun q6 => (if q6.1 = 0 then ((fn_X8_takesWord 3 q6.2).bind fun q8 => (if q8.1 = 0 then ((fn_X8_takesWord 4 q8.2).bind fun q10 => (if q10.1 = 0 then ((fn_X8_takesWord 5 q10.2).bind fun q12 => (if q12.1 = 0 then ((fn_X8_takesWord 6 q12.2).bind fun q14 => (if q14.1 = 0 then ((fn_X8_takesWord 7 q14.2).bind fun q16 => (if q16.1 = 0 then ((fn_X8_takesWord 8 q16.2).bind fun q18 => (if q18.1 = 0 then ((fn_X8_blame (1 : Int32) q1.1 q18.2).bind fun q20 => zcb q20.1 <| (some (q20.1, q20.2))) else ((fn_X1_hasRoom v1 q1.1 q18.2).bind fun q22 => (if q22.1 = 0 then ((some ((0 : Int32), q22.2))) else ((fn_X1_spelling q1.1 q22.2).bind fun q24 => (if q24.1 = 0 then ((some ((0 : Int32), q24.2))) else ((some ((1 : Int32), q24.2))))))))) else ((fn_X1_hasRoom v1 q1.1 q16.2).bind fun q26 => (if q26.1 = 0 then ((some ((0 : Int32), q26.2))) else ((fn_X1_kin q26.2).bind fun q28 => (if q28.1 = 0 then ((some ((0 : Int32), q28.2))) else ((some ((1 : Int32), q28.2))))))))) else ((fn_X1_hasRoom v1 q1.1 q14.2).bind fun q30 => (if q30.1 = 0 then ((some ((0 : Int32), q30.2))) else ((fn_X1_oneMore q1.1 (0 : Int32) q30.2).bind fun q32 => (if q32.1 = 0 then ((some ((0 : Int32), q32.2))) else ((some ((1 : Int32), q32.2))))))))) else ((fn_X1_hasRoom v1 q1.1 q12.2).bind fun q34 => (if q34.1 = 0 then ((some ((0 : Int32), q34.2))) else ((fn_X1_oneMore q1.1 (1 : Int32) q34.2).bind fun q36 => (if q36.1 = 0 then ((some ((0 : Int32), q36.2))) else ((some ((1 : Int32), q36.2))))))))) else ((fn_X1_hasLatest q1.1 q10.2).bind fun q38 => (if q38.1 = 0 then ((some ((0 : Int32), q38.2))) else ((fn_X1_hasRoom v1 q1.1 q38.2).bind fun q40 => (if q40.1 = 0 then ((some ((0 : Int32), q40.2))) else ((fn_X1_clean q40.2).bind fun q42 => (if q42.1 = 0 then ((some ((0 : Int32), q42.2))) else ((some ((1 : Int32), q42.2))))))))))) else ((fn_X1_hasLatest q1.1 q8.2).bind fun q44 => (if q44.1 = 0 then ((some ((0 : Int32), q44.2))) else ((fn_X1_hasRoom v1 q1.1 q44.2).bind fun q46 => (if q46.1 = 0 then ((some ((0 : Int32), q46.2))) else ((fn_X1_stroke (0 : Int32) q46.2).bind fun q48 => (if q48.1 = 0 then ((some ((0 : Int32), q48.2))) else ((some ((1 : Int32), q48.2))))))))))) else ((fn_X1_hasLatest q1.1 q6.2).bind fun q50 => (if q50.1 = 0 then ((some ((0 : Int32), q50.2))) else ((fn_X1_hasRoom v1 q1.1 q50.2).bind fun q52 => (if q52.1 = 0 then ((some ((0 : Int32), q52.2))) else ((fn_X1_stroke (1 : Int32) q52.2).bind fun q54 => (if q54.1 = 0 then ((some ((0 : Int32), q54.2))) else ((some ((1 : Int32), q54.2))))))))))) else ((fn_X1_hasRoom v1 q1.1 q4.2).bind fun q56 => (if q56.1 = 0 then ((some ((0 : Int32), q56.2))) else ((fn_X0_addSign 12 (0 : Int32) q56.2).bind fun q58 => (if q58.1 = 0 then ((fn_X8_blame (3 : Int32) q1.1 q58.2).bind fun q60 => (if q60.1 = 0 then ((some ((0 : Int32), q60.2))) else ((some ((1 : Int32), q60.2))))) else ((some ((1 : Int32), q58.2))))))))) else ((fn_X1_hasRoom v1 q1.1 q2.2).bind fun q62 => (if q62.1 = 0 then ((some ((0 : Int32), q62.2))) else ((fn_X1_size v1 q1.1 q62.2).bind fun q64 => (if q64.1 = 0 then ((some ((0 : Int32), q64.2))) else ((some ((1 : Int32), q64.2))))))))
theorem s_X1_clause {X : zX} {Sh : zSh} {d : Nat} (hst : (zl X).stackTraces = false) (h0 : zSh0 Sh) (hd : 6 ≤ d) {v1 : Int32} {D : zD} : Sd X m_X1_clause d [.ref 11, .int v1] (Sh, D) ((oI Sh) (fn_X1_clause v1 D)) := by
  obtain ⟨d, rfl⟩ : ∃ e, d = e + 1 := ⟨d - 1, by omega⟩
  replace hd : 5 ≤ d := by omega
  refine z_body ck_X1_clause rfl (Nat.le_of_ble_eq_true rfl) rfl hst ?_
  rw [fn_X1_clause]
  show Rn X m_X1_clause (d + 1) 0 [(0, .ref 11), (1, .int v1)] [] (Sh, D) _
  refine r_aload_n (pc := 0) 0 d_X1_clause_0 rfl rfl ?_
  refine r_getR (pc := 1) g_X1_18 (K_11 h0) rfl (R_11_0 h0) d_X1_clause_1 ?_
  refine q_cI (f := (oI Sh)) (av := [.ref 2]) (st := []) (z_runV ck_X8_next rfl ml_X1_39 ci_X8_next cv_X8_next (K_2 h0) (ci := 8) rfl rfl (Nat.le_of_ble_eq_true rfl) d_X1_clause_4) (s_X8_next hst h0 (by omega)) kp_I (fun q1 _ => ?_)
  refine r_istore_n (pc := 7) (ls' := [(2, .int q1.1), (0, .ref 11), (1, .int v1)]) d_X1_clause_7 rfl (Nat.le_of_ble_eq_true rfl) rfl ?_
  refine r_aload_n (pc := 8) 1 d_X1_clause_8 rfl rfl ?_
  refine r_getR (pc := 9) g_X1_18 (K_11 h0) rfl (R_11_0 h0) d_X1_clause_9 ?_
  refine r_ldcS (pc := 12) (q := (zR1, 43, "board", 0)) (str_X1_43) rfl rfl d_X1_clause_12 ?_
  refine q_cI (f := (oI Sh)) (av := [.ref 2, .ref (1000000 + 0)]) (st := []) (z_runV ck_X8_takesWord rfl ml_X1_45 ci_X8_takesWord cv_X8_takesWord (K_2 h0) (ci := 8) rfl rfl (Nat.le_of_ble_eq_true rfl) d_X1_clause_14) (s_X8_takesWord hst h0 (by omega) (by decide)) kp_I (fun q2 _ => ?_)
  refine r_if_eq (f := (oI Sh)) (pc := 17) 44 d_X1_clause_17 (by decide) (fun c3 => ?_) (fun c3 => ?_)
  · refine r_aload_n (pc := 44) 1 d_X1_clause_44 rfl rfl ?_
    refine r_getR (pc := 45) g_X1_18 (K_11 h0) rfl (R_11_0 h0) d_X1_clause_45 ?_
    refine r_ldcS (pc := 48) (q := (zR1, 56, "sign", 1)) (str_X1_56) rfl rfl d_X1_clause_48 ?_
    refine q_cI (f := (oI Sh)) (av := [.ref 2, .ref (1000000 + 1)]) (st := []) (z_runV ck_X8_takesWord rfl ml_X1_45 ci_X8_takesWord cv_X8_takesWord (K_2 h0) (ci := 8) rfl rfl (Nat.le_of_ble_eq_true rfl) d_X1_clause_50) (s_X8_takesWord hst h0 (by omega) (by decide)) kp_I (fun q4 _ => ?_)
    refine r_if_eq (f := (oI Sh)) (pc := 53) 94 d_X1_clause_53 (by decide) (fun c5 => ?_) (fun c5 => ?_)
    · refine r_aload_n (pc := 94) 1 d_X1_clause_94 rfl rfl ?_
      refine r_getR (pc := 95) g_X1_18 (K_11 h0) rfl (R_11_0 h0) d_X1_clause_95 ?_
      refine r_ldcS (pc := 98) (q := (zR1, 64, "across", 2)) (str_X1_64) rfl rfl d_X1_clause_98 ?_
      refine q_cI (f := (oI Sh)) (av := [.ref 2, .ref (1000000 + 2)]) (st := []) (z_runV ck_X8_takesWord rfl ml_X1_45 ci_X8_takesWord cv_X8_takesWord (K_2 h0) (ci := 8) rfl rfl (Nat.le_of_ble_eq_true rfl) d_X1_clause_100) (s_X8_takesWord hst h0 (by omega) (by decide)) kp_I (fun q6 _ => ?_)
      refine r_if_eq (f := (oI Sh)) (pc := 103) 137 d_X1_clause_103 (by decide) (fun c7 => ?_) (fun c7 => ?_)
      · refine r_aload_n (pc := 137) 1 d_X1_clause_137 rfl rfl ?_
        refine r_getR (pc := 138) g_X1_18 (K_11 h0) rfl (R_11_0 h0) d_X1_clause_138 ?_
        refine r_ldcS (pc := 141) (q := (zR1, 73, "down", 3)) (str_X1_73) rfl rfl d_X1_clause_141 ?_
        refine q_cI (f := (oI Sh)) (av := [.ref 2, .ref (1000000 + 3)]) (st := []) (z_runV ck_X8_takesWord rfl ml_X1_45 ci_X8_takesWord cv_X8_takesWord (K_2 h0) (ci := 8) rfl rfl (Nat.le_of_ble_eq_true rfl) d_X1_clause_143) (s_X8_takesWord hst h0 (by omega) (by decide)) kp_I (fun q8 _ => ?_)
        refine r_if_eq (f := (oI Sh)) (pc := 146) 180 d_X1_clause_146 (by decide) (fun c9 => ?_) (fun c9 => ?_)
        · refine r_aload_n (pc := 180) 1 d_X1_clause_180 rfl rfl ?_
          refine r_getR (pc := 181) g_X1_18 (K_11 h0) rfl (R_11_0 h0) d_X1_clause_181 ?_
          refine r_ldcS (pc := 184) (q := (zR1, 75, "clean", 4)) (str_X1_75) rfl rfl d_X1_clause_184 ?_
          refine q_cI (f := (oI Sh)) (av := [.ref 2, .ref (1000000 + 4)]) (st := []) (z_runV ck_X8_takesWord rfl ml_X1_45 ci_X8_takesWord cv_X8_takesWord (K_2 h0) (ci := 8) rfl rfl (Nat.le_of_ble_eq_true rfl) d_X1_clause_186) (s_X8_takesWord hst h0 (by omega) (by decide)) kp_I (fun q10 _ => ?_)
          refine r_if_eq (f := (oI Sh)) (pc := 189) 222 d_X1_clause_189 (by decide) (fun c11 => ?_) (fun c11 => ?_)
          · refine r_aload_n (pc := 222) 1 d_X1_clause_222 rfl rfl ?_
            refine r_getR (pc := 223) g_X1_18 (K_11 h0) rfl (R_11_0 h0) d_X1_clause_223 ?_
            refine r_ldcS (pc := 226) (q := (zR1, 79, "turned", 5)) (str_X1_79) rfl rfl d_X1_clause_226 ?_
            refine q_cI (f := (oI Sh)) (av := [.ref 2, .ref (1000000 + 5)]) (st := []) (z_runV ck_X8_takesWord rfl ml_X1_45 ci_X8_takesWord cv_X8_takesWord (K_2 h0) (ci := 8) rfl rfl (Nat.le_of_ble_eq_true rfl) d_X1_clause_228) (s_X8_takesWord hst h0 (by omega) (by decide)) kp_I (fun q12 _ => ?_)
            refine r_if_eq (f := (oI Sh)) (pc := 231) 258 d_X1_clause_231 (by decide) (fun c13 => ?_) (fun c13 => ?_)
            · refine r_aload_n (pc := 258) 1 d_X1_clause_258 rfl rfl ?_
              refine r_getR (pc := 259) g_X1_18 (K_11 h0) rfl (R_11_0 h0) d_X1_clause_259 ?_
              refine r_ldcS (pc := 262) (q := (zR1, 85, "mirror", 6)) (str_X1_85) rfl rfl d_X1_clause_262 ?_
              refine q_cI (f := (oI Sh)) (av := [.ref 2, .ref (1000000 + 6)]) (st := []) (z_runV ck_X8_takesWord rfl ml_X1_45 ci_X8_takesWord cv_X8_takesWord (K_2 h0) (ci := 8) rfl rfl (Nat.le_of_ble_eq_true rfl) d_X1_clause_264) (s_X8_takesWord hst h0 (by omega) (by decide)) kp_I (fun q14 _ => ?_)
              refine r_if_eq (f := (oI Sh)) (pc := 267) 294 d_X1_clause_267 (by decide) (fun c15 => ?_) (fun c15 => ?_)
              · refine r_aload_n (pc := 294) 1 d_X1_clause_294 rfl rfl ?_
                refine r_getR (pc := 295) g_X1_18 (K_11 h0) rfl (R_11_0 h0) d_X1_clause_295 ?_
                refine r_ldcS (pc := 298) (q := (zR1, 87, "family", 7)) (str_X1_87) rfl rfl d_X1_clause_298 ?_
                refine q_cI (f := (oI Sh)) (av := [.ref 2, .ref (1000000 + 7)]) (st := []) (z_runV ck_X8_takesWord rfl ml_X1_45 ci_X8_takesWord cv_X8_takesWord (K_2 h0) (ci := 8) rfl rfl (Nat.le_of_ble_eq_true rfl) d_X1_clause_300) (s_X8_takesWord hst h0 (by omega) (by decide)) kp_I (fun q16 _ => ?_)
                refine r_if_eq (f := (oI Sh)) (pc := 303) 328 d_X1_clause_303 (by decide) (fun c17 => ?_) (fun c17 => ?_)
                · refine r_aload_n (pc := 328) 1 d_X1_clause_328 rfl rfl ?_
                  refine r_getR (pc := 329) g_X1_18 (K_11 h0) rfl (R_11_0 h0) d_X1_clause_329 ?_
                  refine r_ldcS (pc := 332) (q := (zR1, 92, "word", 8)) (str_X1_92) rfl rfl d_X1_clause_332 ?_
                  refine q_cI (f := (oI Sh)) (av := [.ref 2, .ref (1000000 + 8)]) (st := []) (z_runV ck_X8_takesWord rfl ml_X1_45 ci_X8_takesWord cv_X8_takesWord (K_2 h0) (ci := 8) rfl rfl (Nat.le_of_ble_eq_true rfl) d_X1_clause_334) (s_X8_takesWord hst h0 (by omega) (by decide)) kp_I (fun q18 _ => ?_)
                  refine r_if_eq (f := (oI Sh)) (pc := 337) 363 d_X1_clause_337 (by decide) (fun c19 => ?_) (fun c19 => ?_)
                  · refine r_aload_n (pc := 363) 1 d_X1_clause_363 rfl rfl ?_
                    refine r_getR (pc := 364) g_X1_18 (K_11 h0) rfl (R_11_0 h0) d_X1_clause_364 ?_
                    refine r_iconst (pc := 367) (1 : Int32) d_X1_clause_367 rfl ?_
                    refine r_iload_n (pc := 368) 0 d_X1_clause_368 rfl rfl ?_
                    refine q_cI (f := (oI Sh)) (av := [.ref 2, .int (1 : Int32), .int q1.1]) (st := []) (z_runV ck_X8_blame rfl ml_X1_61 ci_X8_blame cv_X8_blame (K_2 h0) (ci := 8) rfl rfl (Nat.le_of_ble_eq_true rfl) d_X1_clause_369) (s_X8_blame hst h0 (by omega)) kp_I (fun q20 _ => ?_)
                    refine r_cb (f := (oI Sh)) rfl (fun hb21 => ?_)
                    exact r_zret (pc := 372) rfl hb21 d_X1_clause_372
                  · refine r_aload_n (pc := 340) 1 d_X1_clause_340 rfl rfl ?_
                    refine r_iload_n (pc := 341) 2 d_X1_clause_341 rfl rfl ?_
                    refine r_iload_n (pc := 342) 0 d_X1_clause_342 rfl rfl ?_
                    refine q_cI (f := (oI Sh)) (av := [.ref 11, .int v1, .int q1.1]) (st := []) (z_runV ck_X1_hasRoom rfl ml_X1_49 ci_X1_hasRoom cv_X1_hasRoom (K_11 h0) (ci := 1) rfl rfl (Nat.le_of_ble_eq_true rfl) d_X1_clause_343) (s_X1_hasRoom hst h0 (by omega)) kp_I (fun q22 _ => ?_)
                    refine r_if_eq (f := (oI Sh)) (pc := 346) 361 d_X1_clause_346 (by decide) (fun c23 => ?_) (fun c23 => ?_)
                    · refine r_iconst (pc := 361) (0 : Int32) d_X1_clause_361 rfl ?_
                      exact r_zret (pc := 362) rfl (by decide) d_X1_clause_362
                    · refine r_aload_n (pc := 349) 1 d_X1_clause_349 rfl rfl ?_
                      refine r_iload_n (pc := 350) 0 d_X1_clause_350 rfl rfl ?_
                      refine q_cI (f := (oI Sh)) (av := [.ref 11, .int q1.1]) (st := []) (z_runV ck_X1_spelling rfl ml_X1_94 ci_X1_spelling cv_X1_spelling (K_11 h0) (ci := 1) rfl rfl (Nat.le_of_ble_eq_true rfl) d_X1_clause_351) (s_X1_spelling hst h0 (by omega)) kp_I (fun q24 _ => ?_)
                      refine r_if_eq (f := (oI Sh)) (pc := 354) 361 d_X1_clause_354 (by decide) (fun c25 => ?_) (fun c25 => ?_)
                      · refine r_iconst (pc := 361) (0 : Int32) d_X1_clause_361 rfl ?_
                        exact r_zret (pc := 362) rfl (by decide) d_X1_clause_362
                      · refine r_iconst (pc := 357) (1 : Int32) d_X1_clause_357 rfl ?_
                        refine r_goto (pc := 358) 362 d_X1_clause_358 (by decide) ?_
                        exact r_zret (pc := 362) rfl (by decide) d_X1_clause_362
                · refine r_aload_n (pc := 306) 1 d_X1_clause_306 rfl rfl ?_
                  refine r_iload_n (pc := 307) 2 d_X1_clause_307 rfl rfl ?_
                  refine r_iload_n (pc := 308) 0 d_X1_clause_308 rfl rfl ?_
                  refine q_cI (f := (oI Sh)) (av := [.ref 11, .int v1, .int q1.1]) (st := []) (z_runV ck_X1_hasRoom rfl ml_X1_49 ci_X1_hasRoom cv_X1_hasRoom (K_11 h0) (ci := 1) rfl rfl (Nat.le_of_ble_eq_true rfl) d_X1_clause_309) (s_X1_hasRoom hst h0 (by omega)) kp_I (fun q26 _ => ?_)
                  refine r_if_eq (f := (oI Sh)) (pc := 312) 326 d_X1_clause_312 (by decide) (fun c27 => ?_) (fun c27 => ?_)
                  · refine r_iconst (pc := 326) (0 : Int32) d_X1_clause_326 rfl ?_
                    exact r_zret (pc := 327) rfl (by decide) d_X1_clause_327
                  · refine r_aload_n (pc := 315) 1 d_X1_clause_315 rfl rfl ?_
                    refine q_cI (f := (oI Sh)) (av := [.ref 11]) (st := []) (z_runV ck_X1_kin rfl ml_X1_89 ci_X1_kin cv_X1_kin (K_11 h0) (ci := 1) rfl rfl (Nat.le_of_ble_eq_true rfl) d_X1_clause_316) (s_X1_kin hst h0 (by omega)) kp_I (fun q28 _ => ?_)
                    refine r_if_eq (f := (oI Sh)) (pc := 319) 326 d_X1_clause_319 (by decide) (fun c29 => ?_) (fun c29 => ?_)
                    · refine r_iconst (pc := 326) (0 : Int32) d_X1_clause_326 rfl ?_
                      exact r_zret (pc := 327) rfl (by decide) d_X1_clause_327
                    · refine r_iconst (pc := 322) (1 : Int32) d_X1_clause_322 rfl ?_
                      refine r_goto (pc := 323) 327 d_X1_clause_323 (by decide) ?_
                      exact r_zret (pc := 327) rfl (by decide) d_X1_clause_327
              · refine r_aload_n (pc := 270) 1 d_X1_clause_270 rfl rfl ?_
                refine r_iload_n (pc := 271) 2 d_X1_clause_271 rfl rfl ?_
                refine r_iload_n (pc := 272) 0 d_X1_clause_272 rfl rfl ?_
                refine q_cI (f := (oI Sh)) (av := [.ref 11, .int v1, .int q1.1]) (st := []) (z_runV ck_X1_hasRoom rfl ml_X1_49 ci_X1_hasRoom cv_X1_hasRoom (K_11 h0) (ci := 1) rfl rfl (Nat.le_of_ble_eq_true rfl) d_X1_clause_273) (s_X1_hasRoom hst h0 (by omega)) kp_I (fun q30 _ => ?_)
                refine r_if_eq (f := (oI Sh)) (pc := 276) 292 d_X1_clause_276 (by decide) (fun c31 => ?_) (fun c31 => ?_)
                · refine r_iconst (pc := 292) (0 : Int32) d_X1_clause_292 rfl ?_
                  exact r_zret (pc := 293) rfl (by decide) d_X1_clause_293
                · refine r_aload_n (pc := 279) 1 d_X1_clause_279 rfl rfl ?_
                  refine r_iload_n (pc := 280) 0 d_X1_clause_280 rfl rfl ?_
                  refine r_iconst (pc := 281) (0 : Int32) d_X1_clause_281 rfl ?_
                  refine q_cI (f := (oI Sh)) (av := [.ref 11, .int q1.1, .int (0 : Int32)]) (st := []) (z_runV ck_X1_oneMore rfl ml_X1_81 ci_X1_oneMore cv_X1_oneMore (K_11 h0) (ci := 1) rfl rfl (Nat.le_of_ble_eq_true rfl) d_X1_clause_282) (s_X1_oneMore hst h0 (by omega)) kp_I (fun q32 _ => ?_)
                  refine r_if_eq (f := (oI Sh)) (pc := 285) 292 d_X1_clause_285 (by decide) (fun c33 => ?_) (fun c33 => ?_)
                  · refine r_iconst (pc := 292) (0 : Int32) d_X1_clause_292 rfl ?_
                    exact r_zret (pc := 293) rfl (by decide) d_X1_clause_293
                  · refine r_iconst (pc := 288) (1 : Int32) d_X1_clause_288 rfl ?_
                    refine r_goto (pc := 289) 293 d_X1_clause_289 (by decide) ?_
                    exact r_zret (pc := 293) rfl (by decide) d_X1_clause_293
            · refine r_aload_n (pc := 234) 1 d_X1_clause_234 rfl rfl ?_
              refine r_iload_n (pc := 235) 2 d_X1_clause_235 rfl rfl ?_
              refine r_iload_n (pc := 236) 0 d_X1_clause_236 rfl rfl ?_
              refine q_cI (f := (oI Sh)) (av := [.ref 11, .int v1, .int q1.1]) (st := []) (z_runV ck_X1_hasRoom rfl ml_X1_49 ci_X1_hasRoom cv_X1_hasRoom (K_11 h0) (ci := 1) rfl rfl (Nat.le_of_ble_eq_true rfl) d_X1_clause_237) (s_X1_hasRoom hst h0 (by omega)) kp_I (fun q34 _ => ?_)
              refine r_if_eq (f := (oI Sh)) (pc := 240) 256 d_X1_clause_240 (by decide) (fun c35 => ?_) (fun c35 => ?_)
              · refine r_iconst (pc := 256) (0 : Int32) d_X1_clause_256 rfl ?_
                exact r_zret (pc := 257) rfl (by decide) d_X1_clause_257
              · refine r_aload_n (pc := 243) 1 d_X1_clause_243 rfl rfl ?_
                refine r_iload_n (pc := 244) 0 d_X1_clause_244 rfl rfl ?_
                refine r_iconst (pc := 245) (1 : Int32) d_X1_clause_245 rfl ?_
                refine q_cI (f := (oI Sh)) (av := [.ref 11, .int q1.1, .int (1 : Int32)]) (st := []) (z_runV ck_X1_oneMore rfl ml_X1_81 ci_X1_oneMore cv_X1_oneMore (K_11 h0) (ci := 1) rfl rfl (Nat.le_of_ble_eq_true rfl) d_X1_clause_246) (s_X1_oneMore hst h0 (by omega)) kp_I (fun q36 _ => ?_)
                refine r_if_eq (f := (oI Sh)) (pc := 249) 256 d_X1_clause_249 (by decide) (fun c37 => ?_) (fun c37 => ?_)
                · refine r_iconst (pc := 256) (0 : Int32) d_X1_clause_256 rfl ?_
                  exact r_zret (pc := 257) rfl (by decide) d_X1_clause_257
                · refine r_iconst (pc := 252) (1 : Int32) d_X1_clause_252 rfl ?_
                  refine r_goto (pc := 253) 257 d_X1_clause_253 (by decide) ?_
                  exact r_zret (pc := 257) rfl (by decide) d_X1_clause_257
          · refine r_aload_n (pc := 192) 1 d_X1_clause_192 rfl rfl ?_
            refine r_iload_n (pc := 193) 0 d_X1_clause_193 rfl rfl ?_
            refine q_cI (f := (oI Sh)) (av := [.ref 11, .int q1.1]) (st := []) (z_runV ck_X1_hasLatest rfl ml_X1_66 ci_X1_hasLatest cv_X1_hasLatest (K_11 h0) (ci := 1) rfl rfl (Nat.le_of_ble_eq_true rfl) d_X1_clause_194) (s_X1_hasLatest hst h0 (by omega)) kp_I (fun q38 _ => ?_)
            refine r_if_eq (f := (oI Sh)) (pc := 197) 220 d_X1_clause_197 (by decide) (fun c39 => ?_) (fun c39 => ?_)
            · refine r_iconst (pc := 220) (0 : Int32) d_X1_clause_220 rfl ?_
              exact r_zret (pc := 221) rfl (by decide) d_X1_clause_221
            · refine r_aload_n (pc := 200) 1 d_X1_clause_200 rfl rfl ?_
              refine r_iload_n (pc := 201) 2 d_X1_clause_201 rfl rfl ?_
              refine r_iload_n (pc := 202) 0 d_X1_clause_202 rfl rfl ?_
              refine q_cI (f := (oI Sh)) (av := [.ref 11, .int v1, .int q1.1]) (st := []) (z_runV ck_X1_hasRoom rfl ml_X1_49 ci_X1_hasRoom cv_X1_hasRoom (K_11 h0) (ci := 1) rfl rfl (Nat.le_of_ble_eq_true rfl) d_X1_clause_203) (s_X1_hasRoom hst h0 (by omega)) kp_I (fun q40 _ => ?_)
              refine r_if_eq (f := (oI Sh)) (pc := 206) 220 d_X1_clause_206 (by decide) (fun c41 => ?_) (fun c41 => ?_)
              · refine r_iconst (pc := 220) (0 : Int32) d_X1_clause_220 rfl ?_
                exact r_zret (pc := 221) rfl (by decide) d_X1_clause_221
              · refine r_aload_n (pc := 209) 1 d_X1_clause_209 rfl rfl ?_
                refine q_cI (f := (oI Sh)) (av := [.ref 11]) (st := []) (z_runV ck_X1_clean rfl ml_X1_77 ci_X1_clean cv_X1_clean (K_11 h0) (ci := 1) rfl rfl (Nat.le_of_ble_eq_true rfl) d_X1_clause_210) (s_X1_clean hst h0 (by omega)) kp_I (fun q42 _ => ?_)
                refine r_if_eq (f := (oI Sh)) (pc := 213) 220 d_X1_clause_213 (by decide) (fun c43 => ?_) (fun c43 => ?_)
                · refine r_iconst (pc := 220) (0 : Int32) d_X1_clause_220 rfl ?_
                  exact r_zret (pc := 221) rfl (by decide) d_X1_clause_221
                · refine r_iconst (pc := 216) (1 : Int32) d_X1_clause_216 rfl ?_
                  refine r_goto (pc := 217) 221 d_X1_clause_217 (by decide) ?_
                  exact r_zret (pc := 221) rfl (by decide) d_X1_clause_221
        · refine r_aload_n (pc := 149) 1 d_X1_clause_149 rfl rfl ?_
          refine r_iload_n (pc := 150) 0 d_X1_clause_150 rfl rfl ?_
          refine q_cI (f := (oI Sh)) (av := [.ref 11, .int q1.1]) (st := []) (z_runV ck_X1_hasLatest rfl ml_X1_66 ci_X1_hasLatest cv_X1_hasLatest (K_11 h0) (ci := 1) rfl rfl (Nat.le_of_ble_eq_true rfl) d_X1_clause_151) (s_X1_hasLatest hst h0 (by omega)) kp_I (fun q44 _ => ?_)
          refine r_if_eq (f := (oI Sh)) (pc := 154) 178 d_X1_clause_154 (by decide) (fun c45 => ?_) (fun c45 => ?_)
          · refine r_iconst (pc := 178) (0 : Int32) d_X1_clause_178 rfl ?_
            exact r_zret (pc := 179) rfl (by decide) d_X1_clause_179
          · refine r_aload_n (pc := 157) 1 d_X1_clause_157 rfl rfl ?_
            refine r_iload_n (pc := 158) 2 d_X1_clause_158 rfl rfl ?_
            refine r_iload_n (pc := 159) 0 d_X1_clause_159 rfl rfl ?_
            refine q_cI (f := (oI Sh)) (av := [.ref 11, .int v1, .int q1.1]) (st := []) (z_runV ck_X1_hasRoom rfl ml_X1_49 ci_X1_hasRoom cv_X1_hasRoom (K_11 h0) (ci := 1) rfl rfl (Nat.le_of_ble_eq_true rfl) d_X1_clause_160) (s_X1_hasRoom hst h0 (by omega)) kp_I (fun q46 _ => ?_)
            refine r_if_eq (f := (oI Sh)) (pc := 163) 178 d_X1_clause_163 (by decide) (fun c47 => ?_) (fun c47 => ?_)
            · refine r_iconst (pc := 178) (0 : Int32) d_X1_clause_178 rfl ?_
              exact r_zret (pc := 179) rfl (by decide) d_X1_clause_179
            · refine r_aload_n (pc := 166) 1 d_X1_clause_166 rfl rfl ?_
              refine r_iconst (pc := 167) (0 : Int32) d_X1_clause_167 rfl ?_
              refine q_cI (f := (oI Sh)) (av := [.ref 11, .int (0 : Int32)]) (st := []) (z_runV ck_X1_stroke rfl ml_X1_69 ci_X1_stroke cv_X1_stroke (K_11 h0) (ci := 1) rfl rfl (Nat.le_of_ble_eq_true rfl) d_X1_clause_168) (s_X1_stroke hst h0 (by omega)) kp_I (fun q48 _ => ?_)
              refine r_if_eq (f := (oI Sh)) (pc := 171) 178 d_X1_clause_171 (by decide) (fun c49 => ?_) (fun c49 => ?_)
              · refine r_iconst (pc := 178) (0 : Int32) d_X1_clause_178 rfl ?_
                exact r_zret (pc := 179) rfl (by decide) d_X1_clause_179
              · refine r_iconst (pc := 174) (1 : Int32) d_X1_clause_174 rfl ?_
                refine r_goto (pc := 175) 179 d_X1_clause_175 (by decide) ?_
                exact r_zret (pc := 179) rfl (by decide) d_X1_clause_179
      · refine r_aload_n (pc := 106) 1 d_X1_clause_106 rfl rfl ?_
        refine r_iload_n (pc := 107) 0 d_X1_clause_107 rfl rfl ?_
        refine q_cI (f := (oI Sh)) (av := [.ref 11, .int q1.1]) (st := []) (z_runV ck_X1_hasLatest rfl ml_X1_66 ci_X1_hasLatest cv_X1_hasLatest (K_11 h0) (ci := 1) rfl rfl (Nat.le_of_ble_eq_true rfl) d_X1_clause_108) (s_X1_hasLatest hst h0 (by omega)) kp_I (fun q50 _ => ?_)
        refine r_if_eq (f := (oI Sh)) (pc := 111) 135 d_X1_clause_111 (by decide) (fun c51 => ?_) (fun c51 => ?_)
        · refine r_iconst (pc := 135) (0 : Int32) d_X1_clause_135 rfl ?_
          exact r_zret (pc := 136) rfl (by decide) d_X1_clause_136
        · refine r_aload_n (pc := 114) 1 d_X1_clause_114 rfl rfl ?_
          refine r_iload_n (pc := 115) 2 d_X1_clause_115 rfl rfl ?_
          refine r_iload_n (pc := 116) 0 d_X1_clause_116 rfl rfl ?_
          refine q_cI (f := (oI Sh)) (av := [.ref 11, .int v1, .int q1.1]) (st := []) (z_runV ck_X1_hasRoom rfl ml_X1_49 ci_X1_hasRoom cv_X1_hasRoom (K_11 h0) (ci := 1) rfl rfl (Nat.le_of_ble_eq_true rfl) d_X1_clause_117) (s_X1_hasRoom hst h0 (by omega)) kp_I (fun q52 _ => ?_)
          refine r_if_eq (f := (oI Sh)) (pc := 120) 135 d_X1_clause_120 (by decide) (fun c53 => ?_) (fun c53 => ?_)
          · refine r_iconst (pc := 135) (0 : Int32) d_X1_clause_135 rfl ?_
            exact r_zret (pc := 136) rfl (by decide) d_X1_clause_136
          · refine r_aload_n (pc := 123) 1 d_X1_clause_123 rfl rfl ?_
            refine r_iconst (pc := 124) (1 : Int32) d_X1_clause_124 rfl ?_
            refine q_cI (f := (oI Sh)) (av := [.ref 11, .int (1 : Int32)]) (st := []) (z_runV ck_X1_stroke rfl ml_X1_69 ci_X1_stroke cv_X1_stroke (K_11 h0) (ci := 1) rfl rfl (Nat.le_of_ble_eq_true rfl) d_X1_clause_125) (s_X1_stroke hst h0 (by omega)) kp_I (fun q54 _ => ?_)
            refine r_if_eq (f := (oI Sh)) (pc := 128) 135 d_X1_clause_128 (by decide) (fun c55 => ?_) (fun c55 => ?_)
            · refine r_iconst (pc := 135) (0 : Int32) d_X1_clause_135 rfl ?_
              exact r_zret (pc := 136) rfl (by decide) d_X1_clause_136
            · refine r_iconst (pc := 131) (1 : Int32) d_X1_clause_131 rfl ?_
              refine r_goto (pc := 132) 136 d_X1_clause_132 (by decide) ?_
              exact r_zret (pc := 136) rfl (by decide) d_X1_clause_136
    · refine r_aload_n (pc := 56) 1 d_X1_clause_56 rfl rfl ?_
      refine r_iload_n (pc := 57) 2 d_X1_clause_57 rfl rfl ?_
      refine r_iload_n (pc := 58) 0 d_X1_clause_58 rfl rfl ?_
      refine q_cI (f := (oI Sh)) (av := [.ref 11, .int v1, .int q1.1]) (st := []) (z_runV ck_X1_hasRoom rfl ml_X1_49 ci_X1_hasRoom cv_X1_hasRoom (K_11 h0) (ci := 1) rfl rfl (Nat.le_of_ble_eq_true rfl) d_X1_clause_59) (s_X1_hasRoom hst h0 (by omega)) kp_I (fun q56 _ => ?_)
      refine r_if_eq (f := (oI Sh)) (pc := 62) 92 d_X1_clause_62 (by decide) (fun c57 => ?_) (fun c57 => ?_)
      · refine r_iconst (pc := 92) (0 : Int32) d_X1_clause_92 rfl ?_
        exact r_zret (pc := 93) rfl (by decide) d_X1_clause_93
      · refine r_aload_n (pc := 65) 1 d_X1_clause_65 rfl rfl ?_
        refine r_getR (pc := 66) g_X1_12 (K_11 h0) rfl (R_11_1 h0) d_X1_clause_66 ?_
        refine r_iconst (pc := 69) (0 : Int32) d_X1_clause_69 rfl ?_
        refine q_cI (f := (oI Sh)) (av := [.ref 12, .int (0 : Int32)]) (st := []) (z_runV ck_X0_addSign rfl ml_X1_58 ci_X0_addSign cv_X0_addSign (K_12 h0) (ci := 0) rfl rfl (Nat.le_of_ble_eq_true rfl) d_X1_clause_70) (s_X0_addSign hst h0 (by omega) (I_12)) kp_I (fun q58 _ => ?_)
        refine r_if_ne (f := (oI Sh)) (pc := 73) 88 d_X1_clause_73 (by decide) (fun c59 => ?_) (fun c59 => ?_)
        · refine r_iconst (pc := 88) (1 : Int32) d_X1_clause_88 rfl ?_
          refine r_goto (pc := 89) 93 d_X1_clause_89 (by decide) ?_
          exact r_zret (pc := 93) rfl (by decide) d_X1_clause_93
        · refine r_aload_n (pc := 76) 1 d_X1_clause_76 rfl rfl ?_
          refine r_getR (pc := 77) g_X1_18 (K_11 h0) rfl (R_11_0 h0) d_X1_clause_77 ?_
          refine r_iconst (pc := 80) (3 : Int32) d_X1_clause_80 rfl ?_
          refine r_iload_n (pc := 81) 0 d_X1_clause_81 rfl rfl ?_
          refine q_cI (f := (oI Sh)) (av := [.ref 2, .int (3 : Int32), .int q1.1]) (st := []) (z_runV ck_X8_blame rfl ml_X1_61 ci_X8_blame cv_X8_blame (K_2 h0) (ci := 8) rfl rfl (Nat.le_of_ble_eq_true rfl) d_X1_clause_82) (s_X8_blame hst h0 (by omega)) kp_I (fun q60 _ => ?_)
          refine r_if_eq (f := (oI Sh)) (pc := 85) 92 d_X1_clause_85 (by decide) (fun c61 => ?_) (fun c61 => ?_)
          · refine r_iconst (pc := 92) (0 : Int32) d_X1_clause_92 rfl ?_
            exact r_zret (pc := 93) rfl (by decide) d_X1_clause_93
          · refine r_iconst (pc := 88) (1 : Int32) d_X1_clause_88 rfl ?_
            refine r_goto (pc := 89) 93 d_X1_clause_89 (by decide) ?_
            exact r_zret (pc := 93) rfl (by decide) d_X1_clause_93
  · refine r_aload_n (pc := 20) 1 d_X1_clause_20 rfl rfl ?_
    refine r_iload_n (pc := 21) 2 d_X1_clause_21 rfl rfl ?_
    refine r_iload_n (pc := 22) 0 d_X1_clause_22 rfl rfl ?_
    refine q_cI (f := (oI Sh)) (av := [.ref 11, .int v1, .int q1.1]) (st := []) (z_runV ck_X1_hasRoom rfl ml_X1_49 ci_X1_hasRoom cv_X1_hasRoom (K_11 h0) (ci := 1) rfl rfl (Nat.le_of_ble_eq_true rfl) d_X1_clause_23) (s_X1_hasRoom hst h0 (by omega)) kp_I (fun q62 _ => ?_)
    refine r_if_eq (f := (oI Sh)) (pc := 26) 42 d_X1_clause_26 (by decide) (fun c63 => ?_) (fun c63 => ?_)
    · refine r_iconst (pc := 42) (0 : Int32) d_X1_clause_42 rfl ?_
      exact r_zret (pc := 43) rfl (by decide) d_X1_clause_43
    · refine r_aload_n (pc := 29) 1 d_X1_clause_29 rfl rfl ?_
      refine r_iload_n (pc := 30) 2 d_X1_clause_30 rfl rfl ?_
      refine r_iload_n (pc := 31) 0 d_X1_clause_31 rfl rfl ?_
      refine q_cI (f := (oI Sh)) (av := [.ref 11, .int v1, .int q1.1]) (st := []) (z_runV ck_X1_size rfl ml_X1_53 ci_X1_size cv_X1_size (K_11 h0) (ci := 1) rfl rfl (Nat.le_of_ble_eq_true rfl) d_X1_clause_32) (s_X1_size hst h0 (by omega)) kp_I (fun q64 _ => ?_)
      refine r_if_eq (f := (oI Sh)) (pc := 35) 42 d_X1_clause_35 (by decide) (fun c65 => ?_) (fun c65 => ?_)
      · refine r_iconst (pc := 42) (0 : Int32) d_X1_clause_42 rfl ?_
        exact r_zret (pc := 43) rfl (by decide) d_X1_clause_43
      · refine r_iconst (pc := 38) (1 : Int32) d_X1_clause_38 rfl ?_
        refine r_goto (pc := 39) 43 d_X1_clause_39 (by decide) ?_
        exact r_zret (pc := 43) rfl (by decide) d_X1_clause_43
/-! CoveredSigns$AlphabetText.parse -/
theorem d_X1_parse_0 : decode (yB m_X1_parse) 0 = .ok (.aload_n 0, 1) := by decide +kernel
theorem d_X1_parse_1 : decode (yB m_X1_parse) 1 = .ok (.getfield 12, 3) := by decide +kernel
theorem d_X1_parse_4 : decode (yB m_X1_parse) 4 = .ok (.invokevirtual 22, 3) := by decide +kernel
theorem d_X1_parse_7 : decode (yB m_X1_parse) 7 = .ok (.iconst 0, 1) := by decide +kernel
theorem d_X1_parse_8 : decode (yB m_X1_parse) 8 = .ok (.istore_n 1, 1) := by decide +kernel
theorem d_X1_parse_9 : decode (yB m_X1_parse) 9 = .ok (.iload_n 1, 1) := by decide +kernel
theorem d_X1_parse_10 : decode (yB m_X1_parse) 10 = .ok (.bipush 60, 2) := by decide +kernel
theorem d_X1_parse_12 : decode (yB m_X1_parse) 12 = .ok (.if_icmp .gt 43, 3) := by decide +kernel
theorem d_X1_parse_15 : decode (yB m_X1_parse) 15 = .ok (.aload_n 0, 1) := by decide +kernel
theorem d_X1_parse_16 : decode (yB m_X1_parse) 16 = .ok (.getfield 18, 3) := by decide +kernel
theorem d_X1_parse_19 : decode (yB m_X1_parse) 19 = .ok (.invokevirtual 25, 3) := by decide +kernel
theorem d_X1_parse_22 : decode (yB m_X1_parse) 22 = .ok (.ifCond .eq 5, 3) := by decide +kernel
theorem d_X1_parse_25 : decode (yB m_X1_parse) 25 = .ok (.iconst 1, 1) := by decide +kernel
theorem d_X1_parse_26 : decode (yB m_X1_parse) 26 = .ok (.ireturn, 1) := by decide +kernel
theorem d_X1_parse_27 : decode (yB m_X1_parse) 27 = .ok (.aload_n 0, 1) := by decide +kernel
theorem d_X1_parse_28 : decode (yB m_X1_parse) 28 = .ok (.iload_n 1, 1) := by decide +kernel
theorem d_X1_parse_29 : decode (yB m_X1_parse) 29 = .ok (.invokevirtual 31, 3) := by decide +kernel
theorem d_X1_parse_32 : decode (yB m_X1_parse) 32 = .ok (.ifCond .eq 15, 3) := by decide +kernel
theorem d_X1_parse_35 : decode (yB m_X1_parse) 35 = .ok (.aload_n 0, 1) := by decide +kernel
theorem d_X1_parse_36 : decode (yB m_X1_parse) 36 = .ok (.getfield 18, 3) := by decide +kernel
theorem d_X1_parse_39 : decode (yB m_X1_parse) 39 = .ok (.bipush 59, 2) := by decide +kernel
theorem d_X1_parse_41 : decode (yB m_X1_parse) 41 = .ok (.invokevirtual 35, 3) := by decide +kernel
theorem d_X1_parse_44 : decode (yB m_X1_parse) 44 = .ok (.ifCond .ne 5, 3) := by decide +kernel
theorem d_X1_parse_47 : decode (yB m_X1_parse) 47 = .ok (.iconst 0, 1) := by decide +kernel
theorem d_X1_parse_48 : decode (yB m_X1_parse) 48 = .ok (.ireturn, 1) := by decide +kernel
theorem d_X1_parse_49 : decode (yB m_X1_parse) 49 = .ok (.iinc 1 1, 3) := by decide +kernel
theorem d_X1_parse_52 : decode (yB m_X1_parse) 52 = .ok (.goto (-43), 3) := by decide +kernel
theorem d_X1_parse_55 : decode (yB m_X1_parse) 55 = .ok (.iconst 0, 1) := by decide +kernel
theorem d_X1_parse_56 : decode (yB m_X1_parse) 56 = .ok (.ireturn, 1) := by decide +kernel
def fn_X1_parse_9  : Nat → Int32 → zD → Option (Int32 × zD)
  | 0, _, _ => none
  | n + 1, v1, D => (if (60 : Int32) < v1 then ((some ((0 : Int32), D))) else ((fn_X8_ended D).bind fun q3 => (if q3.1 = 0 then ((fn_X1_clause v1 q3.2).bind fun q5 => (if q5.1 = 0 then ((some ((0 : Int32), q5.2))) else ((fn_X8_needsMark (59 : Int32) q5.2).bind fun q7 => (if q7.1 = 0 then ((some ((0 : Int32), q7.2))) else (((fn_X1_parse_9  n) (v1 + (1 : Int32)) q7.2)))))) else ((some ((1 : Int32), q3.2))))))
def fn_X1_parse (D : zD) : Option (Int32 × zD) := (fn_X0_clear 12 D).bind fun D1 => (fn_X1_parse_9 zFU (0 : Int32) D1)
theorem s_X1_parse_9 {X : zX} {Sh : zSh} {d : Nat} (hst : (zl X).stackTraces = false) (h0 : zSh0 Sh) (hd : 6 ≤ d)  : ∀ (n : Nat) (v1 : Int32) (D : zD) , Rn X m_X1_parse (d + 1) 9 [(0, .ref 11), (1, .int v1)] [] (Sh, D) ((oI Sh) (fn_X1_parse_9  n v1 D)) := by
  intro n
  induction n with
  | zero => intro v1 D; exact Rn_none rfl
  | succ n hk9 =>
    intro v1 D
    rw [fn_X1_parse_9]
    refine r_iload_n (pc := 9) 1 d_X1_parse_9 rfl rfl ?_
    refine r_bipush (pc := 10) (60 : Int32) d_X1_parse_10 rfl ?_
    refine r_icmp_gt (f := (oI Sh)) (pc := 12) 55 d_X1_parse_12 (by decide) (fun c2 => ?_) (fun c2 => ?_)
    · refine r_iconst (pc := 55) (0 : Int32) d_X1_parse_55 rfl ?_
      exact r_zret (pc := 56) rfl (by decide) d_X1_parse_56
    · refine r_aload_n (pc := 15) 0 d_X1_parse_15 rfl rfl ?_
      refine r_getR (pc := 16) g_X1_18 (K_11 h0) rfl (R_11_0 h0) d_X1_parse_16 ?_
      refine q_cI (f := (oI Sh)) (av := [.ref 2]) (st := []) (z_runV ck_X8_ended rfl ml_X1_25 ci_X8_ended cv_X8_ended (K_2 h0) (ci := 8) rfl rfl (Nat.le_of_ble_eq_true rfl) d_X1_parse_19) (s_X8_ended hst h0 (by omega)) kp_I (fun q3 _ => ?_)
      refine r_if_eq (f := (oI Sh)) (pc := 22) 27 d_X1_parse_22 (by decide) (fun c4 => ?_) (fun c4 => ?_)
      · refine r_aload_n (pc := 27) 0 d_X1_parse_27 rfl rfl ?_
        refine r_iload_n (pc := 28) 1 d_X1_parse_28 rfl rfl ?_
        refine q_cI (f := (oI Sh)) (av := [.ref 11, .int v1]) (st := []) (z_runV ck_X1_clause rfl ml_X1_31 ci_X1_clause cv_X1_clause (K_11 h0) (ci := 1) rfl rfl (Nat.le_of_ble_eq_true rfl) d_X1_parse_29) (s_X1_clause hst h0 (by omega)) kp_I (fun q5 _ => ?_)
        refine r_if_eq (f := (oI Sh)) (pc := 32) 47 d_X1_parse_32 (by decide) (fun c6 => ?_) (fun c6 => ?_)
        · refine r_iconst (pc := 47) (0 : Int32) d_X1_parse_47 rfl ?_
          exact r_zret (pc := 48) rfl (by decide) d_X1_parse_48
        · refine r_aload_n (pc := 35) 0 d_X1_parse_35 rfl rfl ?_
          refine r_getR (pc := 36) g_X1_18 (K_11 h0) rfl (R_11_0 h0) d_X1_parse_36 ?_
          refine r_bipush (pc := 39) (59 : Int32) d_X1_parse_39 rfl ?_
          refine q_cI (f := (oI Sh)) (av := [.ref 2, .int (59 : Int32)]) (st := []) (z_runV ck_X8_needsMark rfl ml_X1_35 ci_X8_needsMark cv_X8_needsMark (K_2 h0) (ci := 8) rfl rfl (Nat.le_of_ble_eq_true rfl) d_X1_parse_41) (s_X8_needsMark hst h0 (by omega)) kp_I (fun q7 _ => ?_)
          refine r_if_ne (f := (oI Sh)) (pc := 44) 49 d_X1_parse_44 (by decide) (fun c8 => ?_) (fun c8 => ?_)
          · refine r_iinc (pc := 49) ((v1 + (1 : Int32))) 1 (ls' := [(1, .int (v1 + (1 : Int32))), (0, .ref 11)]) d_X1_parse_49 rfl rfl (Nat.le_of_ble_eq_true rfl) rfl ?_
            refine r_goto (pc := 52) 9 d_X1_parse_52 (by decide) ?_
            refine r_pick [1, 0] (ls' := [(0, .ref 11), (1, .int (v1 + (1 : Int32)))]) rfl ?_
            exact hk9 (v1 + (1 : Int32)) q7.2 
          · refine r_iconst (pc := 47) (0 : Int32) d_X1_parse_47 rfl ?_
            exact r_zret (pc := 48) rfl (by decide) d_X1_parse_48
      · refine r_iconst (pc := 25) (1 : Int32) d_X1_parse_25 rfl ?_
        exact r_zret (pc := 26) rfl (by decide) d_X1_parse_26
theorem s_X1_parse {X : zX} {Sh : zSh} {d : Nat} (hst : (zl X).stackTraces = false) (h0 : zSh0 Sh) (hd : 7 ≤ d)  {D : zD} : Sd X m_X1_parse d [.ref 11] (Sh, D) ((oI Sh) (fn_X1_parse D)) := by
  obtain ⟨d, rfl⟩ : ∃ e, d = e + 1 := ⟨d - 1, by omega⟩
  replace hd : 6 ≤ d := by omega
  refine z_body ck_X1_parse rfl (Nat.le_of_ble_eq_true rfl) rfl hst ?_
  rw [fn_X1_parse]
  show Rn X m_X1_parse (d + 1) 0 [(0, .ref 11)] [] (Sh, D) _
  refine r_aload_n (pc := 0) 0 d_X1_parse_0 rfl rfl ?_
  refine r_getR (pc := 1) g_X1_12 (K_11 h0) rfl (R_11_1 h0) d_X1_parse_1 ?_
  refine q_cV (f := (oI Sh)) (av := [.ref 12]) (st := []) (z_runV ck_X0_clear rfl ml_X1_22 ci_X0_clear cv_X0_clear (K_12 h0) (ci := 0) rfl rfl (Nat.le_of_ble_eq_true rfl) d_X1_parse_4) (s_X0_clear hst h0 (by omega) (I_12)) kp_I (fun D1 _ => ?_)
  refine r_iconst (pc := 7) (0 : Int32) d_X1_parse_7 rfl ?_
  refine r_istore_n (pc := 8) (ls' := [(1, .int (0 : Int32)), (0, .ref 11)]) d_X1_parse_8 rfl (Nat.le_of_ble_eq_true rfl) rfl ?_
  refine r_pick [1, 0] (ls' := [(0, .ref 11), (1, .int (0 : Int32))]) rfl ?_
  exact s_X1_parse_9 hst h0 hd zFU  (0 : Int32) D1

