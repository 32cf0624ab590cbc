/-! CoveredSigns$Outlook.spoil -/
theorem d_X5_spoil_0 : decode (yB m_X5_spoil) 0 = .ok (.aload_n 0, 1) := by decide +kernel
theorem d_X5_spoil_1 : decode (yB m_X5_spoil) 1 = .ok (.getfield 18, 3) := by decide +kernel
theorem d_X5_spoil_4 : decode (yB m_X5_spoil) 4 = .ok (.iconst 0, 1) := by decide +kernel
theorem d_X5_spoil_5 : decode (yB m_X5_spoil) 5 = .ok (.invokestatic 21, 3) := by decide +kernel
theorem d_X5_spoil_8 : decode (yB m_X5_spoil) 8 = .ok (.return_, 1) := by decide +kernel
def fn_X5_spoil (D : zD) : Option zD := (fn_JA_fill2 100 8 (0 : Int32) D).bind fun D1 => (some D1)
theorem s_X5_spoil {X : zX} {Sh : zSh} {d : Nat} (hst : (zl X).stackTraces = false) (h0 : zSh0 Sh) (hd : 2 ≤ d)  {D : zD} : Sd X m_X5_spoil d [.ref 97] (Sh, D) ((oV Sh) (fn_X5_spoil D)) := by
  obtain ⟨d, rfl⟩ : ∃ e, d = e + 1 := ⟨d - 1, by omega⟩
  replace hd : 1 ≤ d := by omega
  refine z_body ck_X5_spoil rfl (Nat.le_of_ble_eq_true rfl) rfl hst ?_
  rw [fn_X5_spoil]
  show Rn X m_X5_spoil (d + 1) 0 [(0, .ref 97)] [] (Sh, D) _
  refine r_aload_n (pc := 0) 0 d_X5_spoil_0 rfl rfl ?_
  refine r_getR (pc := 1) g_X5_18 (K_97 h0) rfl (R_97_2 h0) d_X5_spoil_1 ?_
  refine r_iconst (pc := 4) (0 : Int32) d_X5_spoil_4 rfl ?_
  refine q_cV (f := (oV Sh)) (av := [.ref 100, .int (0 : Int32)]) (st := []) (z_runS ck_JA_fill2 rfl ml_X5_21 cs_JA_fill2 rfl (Nat.le_of_ble_eq_true rfl) d_X5_spoil_5) (s_JA_fill2 hst h0 (by omega) (K_100 h0) (by decide)) kp_V (fun D1 _ => ?_)
  exact r_vret (pc := 8) rfl d_X5_spoil_8
/-! CoveredSigns$Outlook.isHidden -/
theorem d_X5_isHidden_0 : decode (yB m_X5_isHidden) 0 = .ok (.aload_n 1, 1) := by decide +kernel
theorem d_X5_isHidden_1 : decode (yB m_X5_isHidden) 1 = .ok (.iload_n 3, 1) := by decide +kernel
theorem d_X5_isHidden_2 : decode (yB m_X5_isHidden) 2 = .ok (.invokevirtual 35, 3) := by decide +kernel
theorem d_X5_isHidden_5 : decode (yB m_X5_isHidden) 5 = .ok (.istore 6, 2) := by decide +kernel
theorem d_X5_isHidden_7 : decode (yB m_X5_isHidden) 7 = .ok (.iconst 2, 1) := by decide +kernel
theorem d_X5_isHidden_8 : decode (yB m_X5_isHidden) 8 = .ok (.aload_n 1, 1) := by decide +kernel
theorem d_X5_isHidden_9 : decode (yB m_X5_isHidden) 9 = .ok (.iload_n 3, 1) := by decide +kernel
theorem d_X5_isHidden_10 : decode (yB m_X5_isHidden) 10 = .ok (.invokevirtual 41, 3) := by decide +kernel
theorem d_X5_isHidden_13 : decode (yB m_X5_isHidden) 13 = .ok (.iload 4, 2) := by decide +kernel
theorem d_X5_isHidden_15 : decode (yB m_X5_isHidden) 15 = .ok (.iadd, 1) := by decide +kernel
theorem d_X5_isHidden_16 : decode (yB m_X5_isHidden) 16 = .ok (.iload 5, 2) := by decide +kernel
theorem d_X5_isHidden_18 : decode (yB m_X5_isHidden) 18 = .ok (.isub, 1) := by decide +kernel
theorem d_X5_isHidden_19 : decode (yB m_X5_isHidden) 19 = .ok (.imul, 1) := by decide +kernel
theorem d_X5_isHidden_20 : decode (yB m_X5_isHidden) 20 = .ok (.iconst 1, 1) := by decide +kernel
theorem d_X5_isHidden_21 : decode (yB m_X5_isHidden) 21 = .ok (.iadd, 1) := by decide +kernel
theorem d_X5_isHidden_22 : decode (yB m_X5_isHidden) 22 = .ok (.istore 7, 2) := by decide +kernel
theorem d_X5_isHidden_24 : decode (yB m_X5_isHidden) 24 = .ok (.iconst 0, 1) := by decide +kernel
theorem d_X5_isHidden_25 : decode (yB m_X5_isHidden) 25 = .ok (.istore 8, 2) := by decide +kernel
theorem d_X5_isHidden_27 : decode (yB m_X5_isHidden) 27 = .ok (.iload 8, 2) := by decide +kernel
theorem d_X5_isHidden_29 : decode (yB m_X5_isHidden) 29 = .ok (.aload_n 1, 1) := by decide +kernel
theorem d_X5_isHidden_30 : decode (yB m_X5_isHidden) 30 = .ok (.getfield 44, 3) := by decide +kernel
theorem d_X5_isHidden_33 : decode (yB m_X5_isHidden) 33 = .ok (.if_icmp .ge 75, 3) := by decide +kernel
theorem d_X5_isHidden_36 : decode (yB m_X5_isHidden) 36 = .ok (.aload_n 1, 1) := by decide +kernel
theorem d_X5_isHidden_37 : decode (yB m_X5_isHidden) 37 = .ok (.iload 8, 2) := by decide +kernel
theorem d_X5_isHidden_39 : decode (yB m_X5_isHidden) 39 = .ok (.invokevirtual 35, 3) := by decide +kernel
theorem d_X5_isHidden_42 : decode (yB m_X5_isHidden) 42 = .ok (.istore 9, 2) := by decide +kernel
theorem d_X5_isHidden_44 : decode (yB m_X5_isHidden) 44 = .ok (.iconst 2, 1) := by decide +kernel
theorem d_X5_isHidden_45 : decode (yB m_X5_isHidden) 45 = .ok (.iload 5, 2) := by decide +kernel
theorem d_X5_isHidden_47 : decode (yB m_X5_isHidden) 47 = .ok (.imul, 1) := by decide +kernel
theorem d_X5_isHidden_48 : decode (yB m_X5_isHidden) 48 = .ok (.iload 6, 2) := by decide +kernel
theorem d_X5_isHidden_50 : decode (yB m_X5_isHidden) 50 = .ok (.imul, 1) := by decide +kernel
theorem d_X5_isHidden_51 : decode (yB m_X5_isHidden) 51 = .ok (.iload 7, 2) := by decide +kernel
theorem d_X5_isHidden_53 : decode (yB m_X5_isHidden) 53 = .ok (.iload 9, 2) := by decide +kernel
theorem d_X5_isHidden_55 : decode (yB m_X5_isHidden) 55 = .ok (.imul, 1) := by decide +kernel
theorem d_X5_isHidden_56 : decode (yB m_X5_isHidden) 56 = .ok (.iadd, 1) := by decide +kernel
theorem d_X5_isHidden_57 : decode (yB m_X5_isHidden) 57 = .ok (.istore 10, 2) := by decide +kernel
theorem d_X5_isHidden_59 : decode (yB m_X5_isHidden) 59 = .ok (.iconst 2, 1) := by decide +kernel
theorem d_X5_isHidden_60 : decode (yB m_X5_isHidden) 60 = .ok (.iload 6, 2) := by decide +kernel
theorem d_X5_isHidden_62 : decode (yB m_X5_isHidden) 62 = .ok (.imul, 1) := by decide +kernel
theorem d_X5_isHidden_63 : decode (yB m_X5_isHidden) 63 = .ok (.aload_n 1, 1) := by decide +kernel
theorem d_X5_isHidden_64 : decode (yB m_X5_isHidden) 64 = .ok (.iload 8, 2) := by decide +kernel
theorem d_X5_isHidden_66 : decode (yB m_X5_isHidden) 66 = .ok (.invokevirtual 41, 3) := by decide +kernel
theorem d_X5_isHidden_69 : decode (yB m_X5_isHidden) 69 = .ok (.imul, 1) := by decide +kernel
theorem d_X5_isHidden_70 : decode (yB m_X5_isHidden) 70 = .ok (.istore 11, 2) := by decide +kernel
theorem d_X5_isHidden_72 : decode (yB m_X5_isHidden) 72 = .ok (.iload 9, 2) := by decide +kernel
theorem d_X5_isHidden_74 : decode (yB m_X5_isHidden) 74 = .ok (.iload 6, 2) := by decide +kernel
theorem d_X5_isHidden_76 : decode (yB m_X5_isHidden) 76 = .ok (.if_icmp .ge 26, 3) := by decide +kernel
theorem d_X5_isHidden_79 : decode (yB m_X5_isHidden) 79 = .ok (.iload 11, 2) := by decide +kernel
theorem d_X5_isHidden_81 : decode (yB m_X5_isHidden) 81 = .ok (.iload 10, 2) := by decide +kernel
theorem d_X5_isHidden_83 : decode (yB m_X5_isHidden) 83 = .ok (.if_icmp .gt 19, 3) := by decide +kernel
theorem d_X5_isHidden_86 : decode (yB m_X5_isHidden) 86 = .ok (.iload 10, 2) := by decide +kernel
theorem d_X5_isHidden_88 : decode (yB m_X5_isHidden) 88 = .ok (.iload 11, 2) := by decide +kernel
theorem d_X5_isHidden_90 : decode (yB m_X5_isHidden) 90 = .ok (.iconst 2, 1) := by decide +kernel
theorem d_X5_isHidden_91 : decode (yB m_X5_isHidden) 91 = .ok (.iload 6, 2) := by decide +kernel
theorem d_X5_isHidden_93 : decode (yB m_X5_isHidden) 93 = .ok (.imul, 1) := by decide +kernel
theorem d_X5_isHidden_94 : decode (yB m_X5_isHidden) 94 = .ok (.iload_n 2, 1) := by decide +kernel
theorem d_X5_isHidden_95 : decode (yB m_X5_isHidden) 95 = .ok (.imul, 1) := by decide +kernel
theorem d_X5_isHidden_96 : decode (yB m_X5_isHidden) 96 = .ok (.iadd, 1) := by decide +kernel
theorem d_X5_isHidden_97 : decode (yB m_X5_isHidden) 97 = .ok (.if_icmp .gt 5, 3) := by decide +kernel
theorem d_X5_isHidden_100 : decode (yB m_X5_isHidden) 100 = .ok (.iconst 1, 1) := by decide +kernel
theorem d_X5_isHidden_101 : decode (yB m_X5_isHidden) 101 = .ok (.ireturn, 1) := by decide +kernel
theorem d_X5_isHidden_102 : decode (yB m_X5_isHidden) 102 = .ok (.iinc 8 1, 3) := by decide +kernel
theorem d_X5_isHidden_105 : decode (yB m_X5_isHidden) 105 = .ok (.goto (-78), 3) := by decide +kernel
theorem d_X5_isHidden_108 : decode (yB m_X5_isHidden) 108 = .ok (.iconst 0, 1) := by decide +kernel
theorem d_X5_isHidden_109 : decode (yB m_X5_isHidden) 109 = .ok (.ireturn, 1) := by decide +kernel
def fn_X5_isHidden_27 (a1 : Nat) (v2 : Int32) (v3 : Int32) (v4 : Int32) (v5 : Int32) (D : zD) : Nat → Int32 → Int32 → Int32 → Option Int32
  | 0, _, _, _ => none
  | n + 1, v6, v7, v8 => (if (gI D a1 2) ≤ v8 then ((some (0 : Int32))) else ((fn_X9_farOf a1 v8 D).bind fun x5 => zlet ((((2 : Int32) * v5) * v6) + (v7 * x5)) fun x6 => (fn_X9_leftOf a1 v8 D).bind fun x7 => zlet (((2 : Int32) * v6) * x7) fun x8 => (if v6 ≤ x5 then (((fn_X5_isHidden_27 a1 v2 v3 v4 v5 D n) v6 v7 (v8 + (1 : Int32)))) else ((if x6 < x8 then (((fn_X5_isHidden_27 a1 v2 v3 v4 v5 D n) v6 v7 (v8 + (1 : Int32)))) else ((if (x8 + (((2 : Int32) * v6) * v2)) < x6 then (((fn_X5_isHidden_27 a1 v2 v3 v4 v5 D n) v6 v7 (v8 + (1 : Int32)))) else ((some (1 : Int32))))))))))
def fn_X5_isHidden (a1 : Nat) (v2 : Int32) (v3 : Int32) (v4 : Int32) (v5 : Int32) (D : zD) : Option Int32 := (fn_X9_farOf a1 v3 D).bind fun x1 => (fn_X9_leftOf a1 v3 D).bind fun x2 => zlet (((2 : Int32) * ((x2 + v4) - v5)) + (1 : Int32)) fun x3 => (fn_X5_isHidden_27 a1 v2 v3 v4 v5 D zFU x1 x3 (0 : Int32))
theorem s_X5_isHidden_27 {X : zX} {Sh : zSh} {d : Nat} (hst : (zl X).stackTraces = false) (h0 : zSh0 Sh) (hd : 1 ≤ d) {a1 : Nat} {v2 : Int32} {v3 : Int32} {v4 : Int32} {v5 : Int32} (h_a1 : a1 ∈ zI_9) (D : zD) : ∀ (n : Nat) (v6 : Int32) (v7 : Int32) (v8 : Int32) , Rn X m_X5_isHidden (d + 1) 27 [(1, .ref a1), (2, .int v2), (5, .int v5), (6, .int v6), (7, .int v7), (8, .int v8)] [] (Sh, D) ((oP Sh D) (fn_X5_isHidden_27 a1 v2 v3 v4 v5 D n v6 v7 v8)) := by
  intro n
  induction n with
  | zero => intro v6 v7 v8; exact Rn_none rfl
  | succ n hk27 =>
    intro v6 v7 v8
    rw [fn_X5_isHidden_27]
    refine r_iload (pc := 27) 5 d_X5_isHidden_27 rfl ?_
    refine r_aload_n (pc := 29) 0 d_X5_isHidden_29 rfl rfl ?_
    refine q_gIn (pc := 30) g_X5_44 (LK_9 h0 h_a1) rfl d_X5_isHidden_30 ?_
    refine r_icmp_ge (f := (oP Sh D)) (pc := 33) 108 d_X5_isHidden_33 (by decide) (fun c4 => ?_) (fun c4 => ?_)
    · refine r_iconst (pc := 108) (0 : Int32) d_X5_isHidden_108 rfl ?_
      exact r_zret (pc := 109) rfl (by decide) d_X5_isHidden_109
    · refine r_aload_n (pc := 36) 0 d_X5_isHidden_36 rfl rfl ?_
      refine r_iload (pc := 37) 5 d_X5_isHidden_37 rfl ?_
      refine q_cP (f := (oP Sh D)) (av := [.ref a1, .int v8]) (st := []) (z_runV ck_X9_farOf rfl ml_X5_35 ci_X9_farOf cv_X9_farOf (LK_9 h0 h_a1) (ci := 9) rfl rfl (Nat.le_of_ble_eq_true rfl) d_X5_isHidden_39) (s_X9_farOf hst h0 (by omega) h_a1) kp_P (fun x5 _ => ?_)
      refine r_istore (pc := 42) (ls' := [(9, .int x5), (1, .ref a1), (2, .int v2), (5, .int v5), (6, .int v6), (7, .int v7), (8, .int v8)]) d_X5_isHidden_42 (Nat.le_of_ble_eq_true rfl) rfl ?_
      refine r_iconst (pc := 44) (2 : Int32) d_X5_isHidden_44 rfl ?_
      refine r_iload (pc := 45) 3 d_X5_isHidden_45 rfl ?_
      refine r_imul (pc := 47) d_X5_isHidden_47 ?_
      refine r_iload (pc := 48) 4 d_X5_isHidden_48 rfl ?_
      refine r_imul (pc := 50) d_X5_isHidden_50 ?_
      refine r_iload (pc := 51) 5 d_X5_isHidden_51 rfl ?_
      refine r_iload (pc := 53) 0 d_X5_isHidden_53 rfl ?_
      refine r_imul (pc := 55) d_X5_isHidden_55 ?_
      refine r_iadd (pc := 56) d_X5_isHidden_56 ?_
      refine r_leti (f := (oP Sh D)) (fun x6 => ?_)
      refine r_istore (pc := 57) (ls' := [(10, .int x6), (9, .int x5), (1, .ref a1), (2, .int v2), (5, .int v5), (6, .int v6), (7, .int v7), (8, .int v8)]) d_X5_isHidden_57 (Nat.le_of_ble_eq_true rfl) rfl ?_
      refine r_iconst (pc := 59) (2 : Int32) d_X5_isHidden_59 rfl ?_
      refine r_iload (pc := 60) 5 d_X5_isHidden_60 rfl ?_
      refine r_imul (pc := 62) d_X5_isHidden_62 ?_
      refine r_aload_n (pc := 63) 2 d_X5_isHidden_63 rfl rfl ?_
      refine r_iload (pc := 64) 7 d_X5_isHidden_64 rfl ?_
      refine q_cP (f := (oP Sh D)) (av := [.ref a1, .int v8]) (st := [.int ((2 : Int32) * v6)]) (z_runV ck_X9_leftOf rfl ml_X5_41 ci_X9_leftOf cv_X9_leftOf (LK_9 h0 h_a1) (ci := 9) rfl rfl (Nat.le_of_ble_eq_true rfl) d_X5_isHidden_66) (s_X9_leftOf hst h0 (by omega) h_a1) kp_P (fun x7 _ => ?_)
      refine r_imul (pc := 69) d_X5_isHidden_69 ?_
      refine r_leti (f := (oP Sh D)) (fun x8 => ?_)
      refine r_istore (pc := 70) (ls' := [(11, .int x8), (10, .int x6), (9, .int x5), (1, .ref a1), (2, .int v2), (5, .int v5), (6, .int v6), (7, .int v7), (8, .int v8)]) d_X5_isHidden_70 (Nat.le_of_ble_eq_true rfl) rfl ?_
      refine r_iload (pc := 72) 2 d_X5_isHidden_72 rfl ?_
      refine r_iload (pc := 74) 6 d_X5_isHidden_74 rfl ?_
      refine r_icmp_ge (f := (oP Sh D)) (pc := 76) 102 d_X5_isHidden_76 (by decide) (fun c9 => ?_) (fun c9 => ?_)
      · refine r_iinc (pc := 102) ((v8 + (1 : Int32))) 8 (ls' := [(8, .int (v8 + (1 : Int32))), (11, .int x8), (10, .int x6), (9, .int x5), (1, .ref a1), (2, .int v2), (5, .int v5), (6, .int v6), (7, .int v7)]) d_X5_isHidden_102 rfl rfl (Nat.le_of_ble_eq_true rfl) rfl ?_
        refine r_goto (pc := 105) 27 d_X5_isHidden_105 (by decide) ?_
        refine r_pick [4, 5, 6, 7, 8, 0] (ls' := [(1, .ref a1), (2, .int v2), (5, .int v5), (6, .int v6), (7, .int v7), (8, .int (v8 + (1 : Int32)))]) rfl ?_
        exact hk27 v6 v7 (v8 + (1 : Int32)) 
      · refine r_iload (pc := 79) 0 d_X5_isHidden_79 rfl ?_
        refine r_iload (pc := 81) 1 d_X5_isHidden_81 rfl ?_
        refine r_icmp_gt (f := (oP Sh D)) (pc := 83) 102 d_X5_isHidden_83 (by decide) (fun c10 => ?_) (fun c10 => ?_)
        · refine r_iinc (pc := 102) ((v8 + (1 : Int32))) 8 (ls' := [(8, .int (v8 + (1 : Int32))), (11, .int x8), (10, .int x6), (9, .int x5), (1, .ref a1), (2, .int v2), (5, .int v5), (6, .int v6), (7, .int v7)]) d_X5_isHidden_102 rfl rfl (Nat.le_of_ble_eq_true rfl) rfl ?_
          refine r_goto (pc := 105) 27 d_X5_isHidden_105 (by decide) ?_
          refine r_pick [4, 5, 6, 7, 8, 0] (ls' := [(1, .ref a1), (2, .int v2), (5, .int v5), (6, .int v6), (7, .int v7), (8, .int (v8 + (1 : Int32)))]) rfl ?_
          exact hk27 v6 v7 (v8 + (1 : Int32)) 
        · refine r_iload (pc := 86) 1 d_X5_isHidden_86 rfl ?_
          refine r_iload (pc := 88) 0 d_X5_isHidden_88 rfl ?_
          refine r_iconst (pc := 90) (2 : Int32) d_X5_isHidden_90 rfl ?_
          refine r_iload (pc := 91) 6 d_X5_isHidden_91 rfl ?_
          refine r_imul (pc := 93) d_X5_isHidden_93 ?_
          refine r_iload_n (pc := 94) 4 d_X5_isHidden_94 rfl rfl ?_
          refine r_imul (pc := 95) d_X5_isHidden_95 ?_
          refine r_iadd (pc := 96) d_X5_isHidden_96 ?_
          refine r_icmp_gt (f := (oP Sh D)) (pc := 97) 102 d_X5_isHidden_97 (by decide) (fun c11 => ?_) (fun c11 => ?_)
          · refine r_iinc (pc := 102) ((v8 + (1 : Int32))) 8 (ls' := [(8, .int (v8 + (1 : Int32))), (11, .int x8), (10, .int x6), (9, .int x5), (1, .ref a1), (2, .int v2), (5, .int v5), (6, .int v6), (7, .int v7)]) d_X5_isHidden_102 rfl rfl (Nat.le_of_ble_eq_true rfl) rfl ?_
            refine r_goto (pc := 105) 27 d_X5_isHidden_105 (by decide) ?_
            refine r_pick [4, 5, 6, 7, 8, 0] (ls' := [(1, .ref a1), (2, .int v2), (5, .int v5), (6, .int v6), (7, .int v7), (8, .int (v8 + (1 : Int32)))]) rfl ?_
            exact hk27 v6 v7 (v8 + (1 : Int32)) 
          · refine r_iconst (pc := 100) (1 : Int32) d_X5_isHidden_100 rfl ?_
            exact r_zret (pc := 101) rfl (by decide) d_X5_isHidden_101
theorem s_X5_isHidden {X : zX} {Sh : zSh} {d : Nat} (hst : (zl X).stackTraces = false) (h0 : zSh0 Sh) (hd : 2 ≤ d) {a1 : Nat} {v2 : Int32} {v3 : Int32} {v4 : Int32} {v5 : Int32} (h_a1 : a1 ∈ zI_9) {D : zD} : Sd X m_X5_isHidden d [.ref 97, .ref a1, .int v2, .int v3, .int v4, .int v5] (Sh, D) ((oP Sh D) (fn_X5_isHidden a1 v2 v3 v4 v5 D)) := by
  obtain ⟨d, rfl⟩ : ∃ e, d = e + 1 := ⟨d - 1, by omega⟩
  replace hd : 1 ≤ d := by omega
  refine z_body ck_X5_isHidden rfl (Nat.le_of_ble_eq_true rfl) rfl hst ?_
  rw [fn_X5_isHidden]
  show Rn X m_X5_isHidden (d + 1) 0 [(0, .ref 97), (1, .ref a1), (2, .int v2), (3, .int v3), (4, .int v4), (5, .int v5)] [] (Sh, D) _
  refine r_aload_n (pc := 0) 1 d_X5_isHidden_0 rfl rfl ?_
  refine r_iload_n (pc := 1) 3 d_X5_isHidden_1 rfl rfl ?_
  refine q_cP (f := (oP Sh D)) (av := [.ref a1, .int v3]) (st := []) (z_runV ck_X9_farOf rfl ml_X5_35 ci_X9_farOf cv_X9_farOf (LK_9 h0 h_a1) (ci := 9) rfl rfl (Nat.le_of_ble_eq_true rfl) d_X5_isHidden_2) (s_X9_farOf hst h0 (by omega) h_a1) kp_P (fun x1 _ => ?_)
  refine r_istore (pc := 5) (ls' := [(6, .int x1), (0, .ref 97), (1, .ref a1), (2, .int v2), (3, .int v3), (4, .int v4), (5, .int v5)]) d_X5_isHidden_5 (Nat.le_of_ble_eq_true rfl) rfl ?_
  refine r_iconst (pc := 7) (2 : Int32) d_X5_isHidden_7 rfl ?_
  refine r_aload_n (pc := 8) 2 d_X5_isHidden_8 rfl rfl ?_
  refine r_iload_n (pc := 9) 4 d_X5_isHidden_9 rfl rfl ?_
  refine q_cP (f := (oP Sh D)) (av := [.ref a1, .int v3]) (st := [.int (2 : Int32)]) (z_runV ck_X9_leftOf rfl ml_X5_41 ci_X9_leftOf cv_X9_leftOf (LK_9 h0 h_a1) (ci := 9) rfl rfl (Nat.le_of_ble_eq_true rfl) d_X5_isHidden_10) (s_X9_leftOf hst h0 (by omega) h_a1) kp_P (fun x2 _ => ?_)
  refine r_iload (pc := 13) 5 d_X5_isHidden_13 rfl ?_
  refine r_iadd (pc := 15) d_X5_isHidden_15 ?_
  refine r_iload (pc := 16) 6 d_X5_isHidden_16 rfl ?_
  refine r_isub (pc := 18) d_X5_isHidden_18 ?_
  refine r_imul (pc := 19) d_X5_isHidden_19 ?_
  refine r_iconst (pc := 20) (1 : Int32) d_X5_isHidden_20 rfl ?_
  refine r_iadd (pc := 21) d_X5_isHidden_21 ?_
  refine r_leti (f := (oP Sh D)) (fun x3 => ?_)
  refine r_istore (pc := 22) (ls' := [(7, .int x3), (6, .int x1), (0, .ref 97), (1, .ref a1), (2, .int v2), (3, .int v3), (4, .int v4), (5, .int v5)]) d_X5_isHidden_22 (Nat.le_of_ble_eq_true rfl) rfl ?_
  refine r_iconst (pc := 24) (0 : Int32) d_X5_isHidden_24 rfl ?_
  refine r_istore (pc := 25) (ls' := [(8, .int (0 : Int32)), (7, .int x3), (6, .int x1), (0, .ref 97), (1, .ref a1), (2, .int v2), (3, .int v3), (4, .int v4), (5, .int v5)]) d_X5_isHidden_25 (Nat.le_of_ble_eq_true rfl) rfl ?_
  refine r_pick [4, 5, 8, 2, 1, 0] (ls' := [(1, .ref a1), (2, .int v2), (5, .int v5), (6, .int x1), (7, .int x3), (8, .int (0 : Int32))]) rfl ?_
  exact s_X5_isHidden_27 hst h0 hd h_a1 D zFU  x1 x3 (0 : Int32)
/-! CoveredSigns$Outlook.openColumns -/
theorem d_X5_openColumns_0 : decode (yB m_X5_openColumns) 0 = .ok (.iconst 0, 1) := by decide +kernel
theorem d_X5_openColumns_1 : decode (yB m_X5_openColumns) 1 = .ok (.istore 5, 2) := by decide +kernel
theorem d_X5_openColumns_3 : decode (yB m_X5_openColumns) 3 = .ok (.iconst 0, 1) := by decide +kernel
theorem d_X5_openColumns_4 : decode (yB m_X5_openColumns) 4 = .ok (.istore 6, 2) := by decide +kernel
theorem d_X5_openColumns_6 : decode (yB m_X5_openColumns) 6 = .ok (.iload 6, 2) := by decide +kernel
theorem d_X5_openColumns_8 : decode (yB m_X5_openColumns) 8 = .ok (.iload_n 2, 1) := by decide +kernel
theorem d_X5_openColumns_9 : decode (yB m_X5_openColumns) 9 = .ok (.if_icmp .ge 32, 3) := by decide +kernel
theorem d_X5_openColumns_12 : decode (yB m_X5_openColumns) 12 = .ok (.aload_n 0, 1) := by decide +kernel
theorem d_X5_openColumns_13 : decode (yB m_X5_openColumns) 13 = .ok (.aload_n 1, 1) := by decide +kernel
theorem d_X5_openColumns_14 : decode (yB m_X5_openColumns) 14 = .ok (.iload_n 2, 1) := by decide +kernel
theorem d_X5_openColumns_15 : decode (yB m_X5_openColumns) 15 = .ok (.iload_n 3, 1) := by decide +kernel
theorem d_X5_openColumns_16 : decode (yB m_X5_openColumns) 16 = .ok (.iload 6, 2) := by decide +kernel
theorem d_X5_openColumns_18 : decode (yB m_X5_openColumns) 18 = .ok (.iload 4, 2) := by decide +kernel
theorem d_X5_openColumns_20 : decode (yB m_X5_openColumns) 20 = .ok (.invokevirtual 31, 3) := by decide +kernel
theorem d_X5_openColumns_23 : decode (yB m_X5_openColumns) 23 = .ok (.ifCond .ne 12, 3) := by decide +kernel
theorem d_X5_openColumns_26 : decode (yB m_X5_openColumns) 26 = .ok (.iload 5, 2) := by decide +kernel
theorem d_X5_openColumns_28 : decode (yB m_X5_openColumns) 28 = .ok (.iconst 1, 1) := by decide +kernel
theorem d_X5_openColumns_29 : decode (yB m_X5_openColumns) 29 = .ok (.iload 6, 2) := by decide +kernel
theorem d_X5_openColumns_31 : decode (yB m_X5_openColumns) 31 = .ok (.ishl, 1) := by decide +kernel
theorem d_X5_openColumns_32 : decode (yB m_X5_openColumns) 32 = .ok (.ior, 1) := by decide +kernel
theorem d_X5_openColumns_33 : decode (yB m_X5_openColumns) 33 = .ok (.istore 5, 2) := by decide +kernel
theorem d_X5_openColumns_35 : decode (yB m_X5_openColumns) 35 = .ok (.iinc 6 1, 3) := by decide +kernel
theorem d_X5_openColumns_38 : decode (yB m_X5_openColumns) 38 = .ok (.goto (-32), 3) := by decide +kernel
theorem d_X5_openColumns_41 : decode (yB m_X5_openColumns) 41 = .ok (.iload 5, 2) := by decide +kernel
theorem d_X5_openColumns_43 : decode (yB m_X5_openColumns) 43 = .ok (.ireturn, 1) := by decide +kernel
def fn_X5_openColumns_6 (a1 : Nat) (v2 : Int32) (v3 : Int32) (v4 : Int32) (D : zD) : Nat → Int32 → Int32 → Option Int32
  | 0, _, _ => none
  | n + 1, v5, v6 => (if v2 ≤ v6 then ((some v5)) else ((fn_X5_isHidden a1 v2 v3 v6 v4 D).bind fun x2 => (if x2 = 0 then (zlet (v5 ||| ((1 : Int32) <<< (v6 &&& 31))) fun x4 => ((fn_X5_openColumns_6 a1 v2 v3 v4 D n) x4 (v6 + (1 : Int32)))) else (((fn_X5_openColumns_6 a1 v2 v3 v4 D n) v5 (v6 + (1 : Int32)))))))
def fn_X5_openColumns (a1 : Nat) (v2 : Int32) (v3 : Int32) (v4 : Int32) (D : zD) : Option Int32 := (fn_X5_openColumns_6 a1 v2 v3 v4 D zFU (0 : Int32) (0 : Int32))
theorem s_X5_openColumns_6 {X : zX} {Sh : zSh} {d : Nat} (hst : (zl X).stackTraces = false) (h0 : zSh0 Sh) (hd : 2 ≤ d) {a1 : Nat} {v2 : Int32} {v3 : Int32} {v4 : Int32} (h_a1 : a1 ∈ zI_9) (D : zD) : ∀ (n : Nat) (v5 : Int32) (v6 : Int32) , Rn X m_X5_openColumns (d + 1) 6 [(0, .ref 97), (1, .ref a1), (2, .int v2), (3, .int v3), (4, .int v4), (5, .int v5), (6, .int v6)] [] (Sh, D) ((oP Sh D) (fn_X5_openColumns_6 a1 v2 v3 v4 D n v5 v6)) := by
  intro n
  induction n with
  | zero => intro v5 v6; exact Rn_none rfl
  | succ n hk6 =>
    intro v5 v6
    rw [fn_X5_openColumns_6]
    refine r_iload (pc := 6) 6 d_X5_openColumns_6 rfl ?_
    refine r_iload_n (pc := 8) 2 d_X5_openColumns_8 rfl rfl ?_
    refine r_icmp_ge (f := (oP Sh D)) (pc := 9) 41 d_X5_openColumns_9 (by decide) (fun c1 => ?_) (fun c1 => ?_)
    · refine r_iload (pc := 41) 5 d_X5_openColumns_41 rfl ?_
      exact r_iret (pc := 43) rfl d_X5_openColumns_43
    · refine r_aload_n (pc := 12) 0 d_X5_openColumns_12 rfl rfl ?_
      refine r_aload_n (pc := 13) 1 d_X5_openColumns_13 rfl rfl ?_
      refine r_iload_n (pc := 14) 2 d_X5_openColumns_14 rfl rfl ?_
      refine r_iload_n (pc := 15) 3 d_X5_openColumns_15 rfl rfl ?_
      refine r_iload (pc := 16) 6 d_X5_openColumns_16 rfl ?_
      refine r_iload (pc := 18) 4 d_X5_openColumns_18 rfl ?_
      refine q_cP (f := (oP Sh D)) (av := [.ref 97, .ref a1, .int v2, .int v3, .int v6, .int v4]) (st := []) (z_runV ck_X5_isHidden rfl ml_X5_31 ci_X5_isHidden cv_X5_isHidden (K_97 h0) (ci := 5) rfl rfl (Nat.le_of_ble_eq_true rfl) d_X5_openColumns_20) (s_X5_isHidden hst h0 (by omega) h_a1) kp_P (fun x2 _ => ?_)
      refine r_if_ne (f := (oP Sh D)) (pc := 23) 35 d_X5_openColumns_23 (by decide) (fun c3 => ?_) (fun c3 => ?_)
      · refine r_iinc (pc := 35) ((v6 + (1 : Int32))) 6 (ls' := [(6, .int (v6 + (1 : Int32))), (0, .ref 97), (1, .ref a1), (2, .int v2), (3, .int v3), (4, .int v4), (5, .int v5)]) d_X5_openColumns_35 rfl rfl (Nat.le_of_ble_eq_true rfl) rfl ?_
        refine r_goto (pc := 38) 6 d_X5_openColumns_38 (by decide) ?_
        refine r_pick [1, 2, 3, 4, 5, 6, 0] (ls' := [(0, .ref 97), (1, .ref a1), (2, .int v2), (3, .int v3), (4, .int v4), (5, .int v5), (6, .int (v6 + (1 : Int32)))]) rfl ?_
        exact hk6 v5 (v6 + (1 : Int32)) 
      · refine r_iload (pc := 26) 5 d_X5_openColumns_26 rfl ?_
        refine r_iconst (pc := 28) (1 : Int32) d_X5_openColumns_28 rfl ?_
        refine r_iload (pc := 29) 6 d_X5_openColumns_29 rfl ?_
        refine r_ishl (pc := 31) d_X5_openColumns_31 ?_
        refine r_ior (pc := 32) d_X5_openColumns_32 ?_
        refine r_leti (f := (oP Sh D)) (fun x4 => ?_)
        refine r_istore (pc := 33) (ls' := [(5, .int x4), (0, .ref 97), (1, .ref a1), (2, .int v2), (3, .int v3), (4, .int v4), (6, .int v6)]) d_X5_openColumns_33 (Nat.le_of_ble_eq_true rfl) rfl ?_
        refine r_iinc (pc := 35) ((v6 + (1 : Int32))) 6 (ls' := [(6, .int (v6 + (1 : Int32))), (5, .int x4), (0, .ref 97), (1, .ref a1), (2, .int v2), (3, .int v3), (4, .int v4)]) d_X5_openColumns_35 rfl rfl (Nat.le_of_ble_eq_true rfl) rfl ?_
        refine r_goto (pc := 38) 6 d_X5_openColumns_38 (by decide) ?_
        refine r_pick [2, 3, 4, 5, 6, 1, 0] (ls' := [(0, .ref 97), (1, .ref a1), (2, .int v2), (3, .int v3), (4, .int v4), (5, .int x4), (6, .int (v6 + (1 : Int32)))]) rfl ?_
        exact hk6 x4 (v6 + (1 : Int32)) 
theorem s_X5_openColumns {X : zX} {Sh : zSh} {d : Nat} (hst : (zl X).stackTraces = false) (h0 : zSh0 Sh) (hd : 3 ≤ d) {a1 : Nat} {v2 : Int32} {v3 : Int32} {v4 : Int32} (h_a1 : a1 ∈ zI_9) {D : zD} : Sd X m_X5_openColumns d [.ref 97, .ref a1, .int v2, .int v3, .int v4] (Sh, D) ((oP Sh D) (fn_X5_openColumns a1 v2 v3 v4 D)) := by
  obtain ⟨d, rfl⟩ : ∃ e, d = e + 1 := ⟨d - 1, by omega⟩
  replace hd : 2 ≤ d := by omega
  refine z_body ck_X5_openColumns rfl (Nat.le_of_ble_eq_true rfl) rfl hst ?_
  rw [fn_X5_openColumns]
  show Rn X m_X5_openColumns (d + 1) 0 [(0, .ref 97), (1, .ref a1), (2, .int v2), (3, .int v3), (4, .int v4)] [] (Sh, D) _
  refine r_iconst (pc := 0) (0 : Int32) d_X5_openColumns_0 rfl ?_
  refine r_istore (pc := 1) (ls' := [(5, .int (0 : Int32)), (0, .ref 97), (1, .ref a1), (2, .int v2), (3, .int v3), (4, .int v4)]) d_X5_openColumns_1 (Nat.le_of_ble_eq_true rfl) rfl ?_
  refine r_iconst (pc := 3) (0 : Int32) d_X5_openColumns_3 rfl ?_
  refine r_istore (pc := 4) (ls' := [(6, .int (0 : Int32)), (5, .int (0 : Int32)), (0, .ref 97), (1, .ref a1), (2, .int v2), (3, .int v3), (4, .int v4)]) d_X5_openColumns_4 (Nat.le_of_ble_eq_true rfl) rfl ?_
  refine r_pick [2, 3, 4, 5, 6, 1, 0] (ls' := [(0, .ref 97), (1, .ref a1), (2, .int v2), (3, .int v3), (4, .int v4), (5, .int (0 : Int32)), (6, .int (0 : Int32))]) rfl ?_
  exact s_X5_openColumns_6 hst h0 hd h_a1 D zFU  (0 : Int32) (0 : Int32)
/-! CoveredSigns$Outlook.columns -/
theorem d_X5_columns_0 : decode (yB m_X5_columns) 0 = .ok (.iload_n 3, 1) := by decide +kernel
theorem d_X5_columns_1 : decode (yB m_X5_columns) 1 = .ok (.ifCond .lt 21, 3) := by decide +kernel
theorem d_X5_columns_4 : decode (yB m_X5_columns) 4 = .ok (.iload_n 3, 1) := by decide +kernel
theorem d_X5_columns_5 : decode (yB m_X5_columns) 5 = .ok (.bipush 8, 2) := by decide +kernel
theorem d_X5_columns_7 : decode (yB m_X5_columns) 7 = .ok (.if_icmp .ge 15, 3) := by decide +kernel
theorem d_X5_columns_10 : decode (yB m_X5_columns) 10 = .ok (.iload 4, 2) := by decide +kernel
theorem d_X5_columns_12 : decode (yB m_X5_columns) 12 = .ok (.ifCond .lt 10, 3) := by decide +kernel
theorem d_X5_columns_15 : decode (yB m_X5_columns) 15 = .ok (.iload 4, 2) := by decide +kernel
theorem d_X5_columns_17 : decode (yB m_X5_columns) 17 = .ok (.bipush 100, 2) := by decide +kernel
theorem d_X5_columns_19 : decode (yB m_X5_columns) 19 = .ok (.if_icmp .lt 5, 3) := by decide +kernel
theorem d_X5_columns_22 : decode (yB m_X5_columns) 22 = .ok (.iconst 0, 1) := by decide +kernel
theorem d_X5_columns_23 : decode (yB m_X5_columns) 23 = .ok (.ireturn, 1) := by decide +kernel
theorem d_X5_columns_24 : decode (yB m_X5_columns) 24 = .ok (.iload_n 3, 1) := by decide +kernel
theorem d_X5_columns_25 : decode (yB m_X5_columns) 25 = .ok (.bipush 100, 2) := by decide +kernel
theorem d_X5_columns_27 : decode (yB m_X5_columns) 27 = .ok (.imul, 1) := by decide +kernel
theorem d_X5_columns_28 : decode (yB m_X5_columns) 28 = .ok (.istore 6, 2) := by decide +kernel
theorem d_X5_columns_30 : decode (yB m_X5_columns) 30 = .ok (.aload_n 0, 1) := by decide +kernel
theorem d_X5_columns_31 : decode (yB m_X5_columns) 31 = .ok (.getfield 18, 3) := by decide +kernel
theorem d_X5_columns_34 : decode (yB m_X5_columns) 34 = .ok (.iload_n 3, 1) := by decide +kernel
theorem d_X5_columns_35 : decode (yB m_X5_columns) 35 = .ok (.iaload, 1) := by decide +kernel
theorem d_X5_columns_36 : decode (yB m_X5_columns) 36 = .ok (.istore 7, 2) := by decide +kernel
theorem d_X5_columns_38 : decode (yB m_X5_columns) 38 = .ok (.iload 7, 2) := by decide +kernel
theorem d_X5_columns_40 : decode (yB m_X5_columns) 40 = .ok (.ifCond .lt 87, 3) := by decide +kernel
theorem d_X5_columns_43 : decode (yB m_X5_columns) 43 = .ok (.iload 7, 2) := by decide +kernel
theorem d_X5_columns_45 : decode (yB m_X5_columns) 45 = .ok (.iload 4, 2) := by decide +kernel
theorem d_X5_columns_47 : decode (yB m_X5_columns) 47 = .ok (.if_icmp .gt 80, 3) := by decide +kernel
theorem d_X5_columns_50 : decode (yB m_X5_columns) 50 = .ok (.aload_n 0, 1) := by decide +kernel
theorem d_X5_columns_51 : decode (yB m_X5_columns) 51 = .ok (.getfield 9, 3) := by decide +kernel
theorem d_X5_columns_54 : decode (yB m_X5_columns) 54 = .ok (.iload 6, 2) := by decide +kernel
theorem d_X5_columns_56 : decode (yB m_X5_columns) 56 = .ok (.iload 7, 2) := by decide +kernel
theorem d_X5_columns_58 : decode (yB m_X5_columns) 58 = .ok (.iadd, 1) := by decide +kernel
theorem d_X5_columns_59 : decode (yB m_X5_columns) 59 = .ok (.aload_n 0, 1) := by decide +kernel
theorem d_X5_columns_60 : decode (yB m_X5_columns) 60 = .ok (.aload_n 1, 1) := by decide +kernel
theorem d_X5_columns_61 : decode (yB m_X5_columns) 61 = .ok (.iload_n 2, 1) := by decide +kernel
theorem d_X5_columns_62 : decode (yB m_X5_columns) 62 = .ok (.iload_n 3, 1) := by decide +kernel
theorem d_X5_columns_63 : decode (yB m_X5_columns) 63 = .ok (.iload 7, 2) := by decide +kernel
theorem d_X5_columns_65 : decode (yB m_X5_columns) 65 = .ok (.invokevirtual 27, 3) := by decide +kernel
theorem d_X5_columns_68 : decode (yB m_X5_columns) 68 = .ok (.iastore, 1) := by decide +kernel
theorem d_X5_columns_69 : decode (yB m_X5_columns) 69 = .ok (.aload_n 0, 1) := by decide +kernel
theorem d_X5_columns_70 : decode (yB m_X5_columns) 70 = .ok (.getfield 15, 3) := by decide +kernel
theorem d_X5_columns_73 : decode (yB m_X5_columns) 73 = .ok (.iload 6, 2) := by decide +kernel
theorem d_X5_columns_75 : decode (yB m_X5_columns) 75 = .ok (.iload 7, 2) := by decide +kernel
theorem d_X5_columns_77 : decode (yB m_X5_columns) 77 = .ok (.iadd, 1) := by decide +kernel
theorem d_X5_columns_78 : decode (yB m_X5_columns) 78 = .ok (.aload_n 0, 1) := by decide +kernel
theorem d_X5_columns_79 : decode (yB m_X5_columns) 79 = .ok (.getfield 9, 3) := by decide +kernel
theorem d_X5_columns_82 : decode (yB m_X5_columns) 82 = .ok (.iload 6, 2) := by decide +kernel
theorem d_X5_columns_84 : decode (yB m_X5_columns) 84 = .ok (.iload 7, 2) := by decide +kernel
theorem d_X5_columns_86 : decode (yB m_X5_columns) 86 = .ok (.iadd, 1) := by decide +kernel
theorem d_X5_columns_87 : decode (yB m_X5_columns) 87 = .ok (.iaload, 1) := by decide +kernel
theorem d_X5_columns_88 : decode (yB m_X5_columns) 88 = .ok (.iload 7, 2) := by decide +kernel
theorem d_X5_columns_90 : decode (yB m_X5_columns) 90 = .ok (.ifCond .le 18, 3) := by decide +kernel
theorem d_X5_columns_93 : decode (yB m_X5_columns) 93 = .ok (.aload_n 0, 1) := by decide +kernel
theorem d_X5_columns_94 : decode (yB m_X5_columns) 94 = .ok (.getfield 15, 3) := by decide +kernel
theorem d_X5_columns_97 : decode (yB m_X5_columns) 97 = .ok (.iload 6, 2) := by decide +kernel
theorem d_X5_columns_99 : decode (yB m_X5_columns) 99 = .ok (.iload 7, 2) := by decide +kernel
theorem d_X5_columns_101 : decode (yB m_X5_columns) 101 = .ok (.iadd, 1) := by decide +kernel
theorem d_X5_columns_102 : decode (yB m_X5_columns) 102 = .ok (.iconst 1, 1) := by decide +kernel
theorem d_X5_columns_103 : decode (yB m_X5_columns) 103 = .ok (.isub, 1) := by decide +kernel
theorem d_X5_columns_104 : decode (yB m_X5_columns) 104 = .ok (.iaload, 1) := by decide +kernel
theorem d_X5_columns_105 : decode (yB m_X5_columns) 105 = .ok (.goto 4, 3) := by decide +kernel
theorem d_X5_columns_108 : decode (yB m_X5_columns) 108 = .ok (.iconst 0, 1) := by decide +kernel
theorem d_X5_columns_109 : decode (yB m_X5_columns) 109 = .ok (.ior, 1) := by decide +kernel
theorem d_X5_columns_110 : decode (yB m_X5_columns) 110 = .ok (.iastore, 1) := by decide +kernel
theorem d_X5_columns_111 : decode (yB m_X5_columns) 111 = .ok (.aload_n 0, 1) := by decide +kernel
theorem d_X5_columns_112 : decode (yB m_X5_columns) 112 = .ok (.getfield 18, 3) := by decide +kernel
theorem d_X5_columns_115 : decode (yB m_X5_columns) 115 = .ok (.iload_n 3, 1) := by decide +kernel
theorem d_X5_columns_116 : decode (yB m_X5_columns) 116 = .ok (.iload 7, 2) := by decide +kernel
theorem d_X5_columns_118 : decode (yB m_X5_columns) 118 = .ok (.iconst 1, 1) := by decide +kernel
theorem d_X5_columns_119 : decode (yB m_X5_columns) 119 = .ok (.iadd, 1) := by decide +kernel
theorem d_X5_columns_120 : decode (yB m_X5_columns) 120 = .ok (.iastore, 1) := by decide +kernel
theorem d_X5_columns_121 : decode (yB m_X5_columns) 121 = .ok (.iinc 7 1, 3) := by decide +kernel
theorem d_X5_columns_124 : decode (yB m_X5_columns) 124 = .ok (.goto (-86), 3) := by decide +kernel
theorem d_X5_columns_127 : decode (yB m_X5_columns) 127 = .ok (.iload 5, 2) := by decide +kernel
theorem d_X5_columns_129 : decode (yB m_X5_columns) 129 = .ok (.ifCond .eq 16, 3) := by decide +kernel
theorem d_X5_columns_132 : decode (yB m_X5_columns) 132 = .ok (.aload_n 0, 1) := by decide +kernel
theorem d_X5_columns_133 : decode (yB m_X5_columns) 133 = .ok (.getfield 15, 3) := by decide +kernel
theorem d_X5_columns_136 : decode (yB m_X5_columns) 136 = .ok (.iload 6, 2) := by decide +kernel
theorem d_X5_columns_138 : decode (yB m_X5_columns) 138 = .ok (.iload 4, 2) := by decide +kernel
theorem d_X5_columns_140 : decode (yB m_X5_columns) 140 = .ok (.iadd, 1) := by decide +kernel
theorem d_X5_columns_141 : decode (yB m_X5_columns) 141 = .ok (.iaload, 1) := by decide +kernel
theorem d_X5_columns_142 : decode (yB m_X5_columns) 142 = .ok (.goto 13, 3) := by decide +kernel
theorem d_X5_columns_145 : decode (yB m_X5_columns) 145 = .ok (.aload_n 0, 1) := by decide +kernel
theorem d_X5_columns_146 : decode (yB m_X5_columns) 146 = .ok (.getfield 9, 3) := by decide +kernel
theorem d_X5_columns_149 : decode (yB m_X5_columns) 149 = .ok (.iload 6, 2) := by decide +kernel
theorem d_X5_columns_151 : decode (yB m_X5_columns) 151 = .ok (.iload 4, 2) := by decide +kernel
theorem d_X5_columns_153 : decode (yB m_X5_columns) 153 = .ok (.iadd, 1) := by decide +kernel
theorem d_X5_columns_154 : decode (yB m_X5_columns) 154 = .ok (.iaload, 1) := by decide +kernel
theorem d_X5_columns_155 : decode (yB m_X5_columns) 155 = .ok (.ireturn, 1) := by decide +kernel
def fn_X5_columns_127 (a1 : Nat) (v2 : Int32) (v3 : Int32) (v4 : Int32) (v5 : Int32) (v6 : Int32) (D : zD) : Option (Int32 × zD) := (if v5 = 0 then (zck (v6 + v4) 800 <| (some ((gI D 98 (v6 + v4).toNatClampNeg), D))) else (zck (v6 + v4) 800 <| (some ((gI D 99 (v6 + v4).toNatClampNeg), D))))
def fn_X5_columns_109 (a1 : Nat) (v2 : Int32) (v3 : Int32) (v4 : Int32) (v5 : Int32) (k38 : Int32 → Int32 → zD → Option (Int32 × zD)) (v6 : Int32) (v7 : Int32) (w1 : Int32) (w2 : Int32) (w3 : Int32) (D : zD) : Option (Int32 × zD) := zck w1 800 <| zlet (sI D 99 w1.toNatClampNeg (w2 ||| w3)) fun D19 => zck v3 8 <| zlet (sI D19 100 v3.toNatClampNeg (v7 + (1 : Int32))) fun D21 => (k38 v6 (v7 + (1 : Int32)) D21)
def fn_X5_columns_38 (a1 : Nat) (v2 : Int32) (v3 : Int32) (v4 : Int32) (v5 : Int32) : Nat → Int32 → Int32 → zD → Option (Int32 × zD)
  | 0, _, _, _ => none
  | n + 1, v6, v7, D => (if v7 < 0 then ((fn_X5_columns_127 a1 v2 v3 v4 v5 v6 D)) else ((if v4 < v7 then ((fn_X5_columns_127 a1 v2 v3 v4 v5 v6 D)) else ((fn_X5_openColumns a1 v2 v3 v7 D).bind fun x13 => zck (v6 + v7) 800 <| zlet (sI D 98 (v6 + v7).toNatClampNeg x13) fun D15 => zck (v6 + v7) 800 <| (if v7 ≤ 0 then ((fn_X5_columns_109 a1 v2 v3 v4 v5 (fn_X5_columns_38 a1 v2 v3 v4 v5 n) v6 v7 (v6 + v7) (gI D15 98 (v6 + v7).toNatClampNeg) (0 : Int32) D15)) else (zck ((v6 + v7) - (1 : Int32)) 800 <| (fn_X5_columns_109 a1 v2 v3 v4 v5 (fn_X5_columns_38 a1 v2 v3 v4 v5 n) v6 v7 (v6 + v7) (gI D15 98 (v6 + v7).toNatClampNeg) (gI D15 99 ((v6 + v7) - (1 : Int32)).toNatClampNeg) D15)))))))
def fn_X5_columns (a1 : Nat) (v2 : Int32) (v3 : Int32) (v4 : Int32) (v5 : Int32) (D : zD) : Option (Int32 × zD) := (if v3 < 0 then ((some ((0 : Int32), D))) else ((if (8 : Int32) ≤ v3 then ((some ((0 : Int32), D))) else ((if v4 < 0 then ((some ((0 : Int32), D))) else ((if v4 < (100 : Int32) then (zlet (v3 * (100 : Int32)) fun x5 => zck v3 8 <| zlet (gI D 100 v3.toNatClampNeg) fun x7 => (fn_X5_columns_38 a1 v2 v3 v4 v5 zFU x5 x7 D)) else ((some ((0 : Int32), D))))))))))
theorem s_X5_columns_127 {X : zX} {Sh : zSh} {d : Nat} (hst : (zl X).stackTraces = false) (h0 : zSh0 Sh) (hd : 3 ≤ d) {a1 : Nat} {v2 : Int32} {v3 : Int32} {v4 : Int32} {v5 : Int32} (h_a1 : a1 ∈ zI_9) (v6 : Int32) (D : zD)  : Rn X m_X5_columns (d + 1) 127 [(0, .ref 97), (4, .int v4), (5, .int v5), (6, .int v6)] [] (Sh, D) ((oI Sh) (fn_X5_columns_127 a1 v2 v3 v4 v5 v6 D)) := by
  rw [fn_X5_columns_127]
  refine r_iload (pc := 127) 2 d_X5_columns_127 rfl ?_
  refine r_if_eq (f := (oI Sh)) (pc := 129) 145 d_X5_columns_129 (by decide) (fun c9 => ?_) (fun c9 => ?_)
  · refine r_aload_n (pc := 145) 0 d_X5_columns_145 rfl rfl ?_
    refine r_getR (pc := 146) g_X5_9 (K_97 h0) rfl (R_97_0 h0) d_X5_columns_146 ?_
    refine r_iload (pc := 149) 3 d_X5_columns_149 rfl ?_
    refine r_iload (pc := 151) 1 d_X5_columns_151 rfl ?_
    refine r_iadd (pc := 153) d_X5_columns_153 ?_
    refine r_ck (f := (oI Sh)) rfl (fun hc10 => ?_)
    refine q_iald (pc := 154) (j := (v6 + v4).toNatClampNeg) (K_98 h0) hc10 rfl d_X5_columns_154 ?_
    exact r_iret (pc := 155) rfl d_X5_columns_155
  · refine r_aload_n (pc := 132) 0 d_X5_columns_132 rfl rfl ?_
    refine r_getR (pc := 133) g_X5_15 (K_97 h0) rfl (R_97_1 h0) d_X5_columns_133 ?_
    refine r_iload (pc := 136) 3 d_X5_columns_136 rfl ?_
    refine r_iload (pc := 138) 1 d_X5_columns_138 rfl ?_
    refine r_iadd (pc := 140) d_X5_columns_140 ?_
    refine r_ck (f := (oI Sh)) rfl (fun hc11 => ?_)
    refine q_iald (pc := 141) (j := (v6 + v4).toNatClampNeg) (K_99 h0) hc11 rfl d_X5_columns_141 ?_
    refine r_goto (pc := 142) 155 d_X5_columns_142 (by decide) ?_
    exact r_iret (pc := 155) rfl d_X5_columns_155
theorem s_X5_columns_109 {X : zX} {Sh : zSh} {d : Nat} (hst : (zl X).stackTraces = false) (h0 : zSh0 Sh) (hd : 3 ≤ d) {a1 : Nat} {v2 : Int32} {v3 : Int32} {v4 : Int32} {v5 : Int32} (h_a1 : a1 ∈ zI_9) (k38 : Int32 → Int32 → zD → Option (Int32 × zD)) (hk38 : ∀ (v6 : Int32) (v7 : Int32) (D : zD) , Rn X m_X5_columns (d + 1) 38 [(0, .ref 97), (1, .ref a1), (2, .int v2), (3, .int v3), (4, .int v4), (5, .int v5), (6, .int v6), (7, .int v7)] [] (Sh, D) ((oI Sh) (k38 v6 v7 D))) (v6 : Int32) (v7 : Int32) (w1 : Int32) (w2 : Int32) (w3 : Int32) (D : zD)  : Rn X m_X5_columns (d + 1) 109 [(0, .ref 97), (1, .ref a1), (2, .int v2), (3, .int v3), (4, .int v4), (5, .int v5), (6, .int v6), (7, .int v7)] [.int w3, .int w2, .int w1, .ref 99] (Sh, D) ((oI Sh) (fn_X5_columns_109 a1 v2 v3 v4 v5 k38 v6 v7 w1 w2 w3 D)) := by
  rw [fn_X5_columns_109]
  refine r_ior (pc := 109) d_X5_columns_109 ?_
  refine r_ck (f := (oI Sh)) rfl (fun hc18 => ?_)
  refine q_iast (pc := 110) (j := w1.toNatClampNeg) (K_99 h0) hc18 rfl  d_X5_columns_110 ?_
  refine r_letD (f := (oI Sh)) (fun D19 => ?_)
  refine r_aload_n (pc := 111) 0 d_X5_columns_111 rfl rfl ?_
  refine r_getR (pc := 112) g_X5_18 (K_97 h0) rfl (R_97_2 h0) d_X5_columns_112 ?_
  refine r_iload_n (pc := 115) 3 d_X5_columns_115 rfl rfl ?_
  refine r_iload (pc := 116) 7 d_X5_columns_116 rfl ?_
  refine r_iconst (pc := 118) (1 : Int32) d_X5_columns_118 rfl ?_
  refine r_iadd (pc := 119) d_X5_columns_119 ?_
  refine r_ck (f := (oI Sh)) rfl (fun hc20 => ?_)
  refine q_iast (pc := 120) (j := v3.toNatClampNeg) (K_100 h0) hc20 rfl  d_X5_columns_120 ?_
  refine r_letD (f := (oI Sh)) (fun D21 => ?_)
  refine r_iinc (pc := 121) ((v7 + (1 : Int32))) 7 (ls' := [(7, .int (v7 + (1 : Int32))), (0, .ref 97), (1, .ref a1), (2, .int v2), (3, .int v3), (4, .int v4), (5, .int v5), (6, .int v6)]) d_X5_columns_121 rfl rfl (Nat.le_of_ble_eq_true rfl) rfl ?_
  refine r_goto (pc := 124) 38 d_X5_columns_124 (by decide) ?_
  refine r_pick [1, 2, 3, 4, 5, 6, 7, 0] (ls' := [(0, .ref 97), (1, .ref a1), (2, .int v2), (3, .int v3), (4, .int v4), (5, .int v5), (6, .int v6), (7, .int (v7 + (1 : Int32)))]) rfl ?_
  exact hk38 v6 (v7 + (1 : Int32)) D21 
theorem s_X5_columns_38 {X : zX} {Sh : zSh} {d : Nat} (hst : (zl X).stackTraces = false) (h0 : zSh0 Sh) (hd : 3 ≤ d) {a1 : Nat} {v2 : Int32} {v3 : Int32} {v4 : Int32} {v5 : Int32} (h_a1 : a1 ∈ zI_9) : ∀ (n : Nat) (v6 : Int32) (v7 : Int32) (D : zD) , Rn X m_X5_columns (d + 1) 38 [(0, .ref 97), (1, .ref a1), (2, .int v2), (3, .int v3), (4, .int v4), (5, .int v5), (6, .int v6), (7, .int v7)] [] (Sh, D) ((oI Sh) (fn_X5_columns_38 a1 v2 v3 v4 v5 n v6 v7 D)) := by
  intro n
  induction n with
  | zero => intro v6 v7 D; exact Rn_none rfl
  | succ n hk38 =>
    intro v6 v7 D
    rw [fn_X5_columns_38]
    refine r_iload (pc := 38) 7 d_X5_columns_38 rfl ?_
    refine r_if_lt (f := (oI Sh)) (pc := 40) 127 d_X5_columns_40 (by decide) (fun c8 => ?_) (fun c8 => ?_)
    · refine r_pick [0, 4, 5, 6] (ls' := [(0, .ref 97), (4, .int v4), (5, .int v5), (6, .int v6)]) rfl ?_
      exact s_X5_columns_127 hst h0 hd h_a1 v6 D
    · refine r_iload (pc := 43) 7 d_X5_columns_43 rfl ?_
      refine r_iload (pc := 45) 4 d_X5_columns_45 rfl ?_
      refine r_icmp_gt (f := (oI Sh)) (pc := 47) 127 d_X5_columns_47 (by decide) (fun c12 => ?_) (fun c12 => ?_)
      · refine r_pick [0, 4, 5, 6] (ls' := [(0, .ref 97), (4, .int v4), (5, .int v5), (6, .int v6)]) rfl ?_
        exact s_X5_columns_127 hst h0 hd h_a1 v6 D
      · refine r_aload_n (pc := 50) 0 d_X5_columns_50 rfl rfl ?_
        refine r_getR (pc := 51) g_X5_9 (K_97 h0) rfl (R_97_0 h0) d_X5_columns_51 ?_
        refine r_iload (pc := 54) 6 d_X5_columns_54 rfl ?_
        refine r_iload (pc := 56) 7 d_X5_columns_56 rfl ?_
        refine r_iadd (pc := 58) d_X5_columns_58 ?_
        refine r_aload_n (pc := 59) 0 d_X5_columns_59 rfl rfl ?_
        refine r_aload_n (pc := 60) 1 d_X5_columns_60 rfl rfl ?_
        refine r_iload_n (pc := 61) 2 d_X5_columns_61 rfl rfl ?_
        refine r_iload_n (pc := 62) 3 d_X5_columns_62 rfl rfl ?_
        refine r_iload (pc := 63) 7 d_X5_columns_63 rfl ?_
        refine q_cP (f := (oI Sh)) (av := [.ref 97, .ref a1, .int v2, .int v3, .int v7]) (st := [.int (v6 + v7), .ref 98]) (z_runV ck_X5_openColumns rfl ml_X5_27 ci_X5_openColumns cv_X5_openColumns (K_97 h0) (ci := 5) rfl rfl (Nat.le_of_ble_eq_true rfl) d_X5_columns_65) (s_X5_openColumns hst h0 (by omega) h_a1) kp_I (fun x13 _ => ?_)
        refine r_ck (f := (oI Sh)) rfl (fun hc14 => ?_)
        refine q_iast (pc := 68) (j := (v6 + v7).toNatClampNeg) (K_98 h0) hc14 rfl  d_X5_columns_68 ?_
        refine r_letD (f := (oI Sh)) (fun D15 => ?_)
        refine r_aload_n (pc := 69) 0 d_X5_columns_69 rfl rfl ?_
        refine r_getR (pc := 70) g_X5_15 (K_97 h0) rfl (R_97_1 h0) d_X5_columns_70 ?_
        refine r_iload (pc := 73) 6 d_X5_columns_73 rfl ?_
        refine r_iload (pc := 75) 7 d_X5_columns_75 rfl ?_
        refine r_iadd (pc := 77) d_X5_columns_77 ?_
        refine r_aload_n (pc := 78) 0 d_X5_columns_78 rfl rfl ?_
        refine r_getR (pc := 79) g_X5_9 (K_97 h0) rfl (R_97_0 h0) d_X5_columns_79 ?_
        refine r_iload (pc := 82) 6 d_X5_columns_82 rfl ?_
        refine r_iload (pc := 84) 7 d_X5_columns_84 rfl ?_
        refine r_iadd (pc := 86) d_X5_columns_86 ?_
        refine r_ck (f := (oI Sh)) rfl (fun hc16 => ?_)
        refine q_iald (pc := 87) (j := (v6 + v7).toNatClampNeg) (K_98 h0) hc16 rfl d_X5_columns_87 ?_
        refine r_iload (pc := 88) 7 d_X5_columns_88 rfl ?_
        refine r_if_le (f := (oI Sh)) (pc := 90) 108 d_X5_columns_90 (by decide) (fun c17 => ?_) (fun c17 => ?_)
        · refine r_iconst (pc := 108) (0 : Int32) d_X5_columns_108 rfl ?_
          refine r_pick [0, 1, 2, 3, 4, 5, 6, 7] (ls' := [(0, .ref 97), (1, .ref a1), (2, .int v2), (3, .int v3), (4, .int v4), (5, .int v5), (6, .int v6), (7, .int v7)]) rfl ?_
          exact s_X5_columns_109 hst h0 hd h_a1 (fn_X5_columns_38 a1 v2 v3 v4 v5 n) hk38 v6 v7 (v6 + v7) (gI D15 98 (v6 + v7).toNatClampNeg) (0 : Int32) D15
        · refine r_aload_n (pc := 93) 0 d_X5_columns_93 rfl rfl ?_
          refine r_getR (pc := 94) g_X5_15 (K_97 h0) rfl (R_97_1 h0) d_X5_columns_94 ?_
          refine r_iload (pc := 97) 6 d_X5_columns_97 rfl ?_
          refine r_iload (pc := 99) 7 d_X5_columns_99 rfl ?_
          refine r_iadd (pc := 101) d_X5_columns_101 ?_
          refine r_iconst (pc := 102) (1 : Int32) d_X5_columns_102 rfl ?_
          refine r_isub (pc := 103) d_X5_columns_103 ?_
          refine r_ck (f := (oI Sh)) rfl (fun hc22 => ?_)
          refine q_iald (pc := 104) (j := ((v6 + v7) - (1 : Int32)).toNatClampNeg) (K_99 h0) hc22 rfl d_X5_columns_104 ?_
          refine r_goto (pc := 105) 109 d_X5_columns_105 (by decide) ?_
          refine r_pick [0, 1, 2, 3, 4, 5, 6, 7] (ls' := [(0, .ref 97), (1, .ref a1), (2, .int v2), (3, .int v3), (4, .int v4), (5, .int v5), (6, .int v6), (7, .int v7)]) rfl ?_
          exact s_X5_columns_109 hst h0 hd h_a1 (fn_X5_columns_38 a1 v2 v3 v4 v5 n) hk38 v6 v7 (v6 + v7) (gI D15 98 (v6 + v7).toNatClampNeg) (gI D15 99 ((v6 + v7) - (1 : Int32)).toNatClampNeg) D15
theorem s_X5_columns {X : zX} {Sh : zSh} {d : Nat} (hst : (zl X).stackTraces = false) (h0 : zSh0 Sh) (hd : 4 ≤ d) {a1 : Nat} {v2 : Int32} {v3 : Int32} {v4 : Int32} {v5 : Int32} (h_a1 : a1 ∈ zI_9) {D : zD} : Sd X m_X5_columns d [.ref 97, .ref a1, .int v2, .int v3, .int v4, .int v5] (Sh, D) ((oI Sh) (fn_X5_columns a1 v2 v3 v4 v5 D)) := by
  obtain ⟨d, rfl⟩ : ∃ e, d = e + 1 := ⟨d - 1, by omega⟩
  replace hd : 3 ≤ d := by omega
  refine z_body ck_X5_columns rfl (Nat.le_of_ble_eq_true rfl) rfl hst ?_
  rw [fn_X5_columns]
  show Rn X m_X5_columns (d + 1) 0 [(0, .ref 97), (1, .ref a1), (2, .int v2), (3, .int v3), (4, .int v4), (5, .int v5)] [] (Sh, D) _
  refine r_iload_n (pc := 0) 3 d_X5_columns_0 rfl rfl ?_
  refine r_if_lt (f := (oI Sh)) (pc := 1) 22 d_X5_columns_1 (by decide) (fun c1 => ?_) (fun c1 => ?_)
  · refine r_iconst (pc := 22) (0 : Int32) d_X5_columns_22 rfl ?_
    exact r_iret (pc := 23) rfl d_X5_columns_23
  · refine r_iload_n (pc := 4) 3 d_X5_columns_4 rfl rfl ?_
    refine r_bipush (pc := 5) (8 : Int32) d_X5_columns_5 rfl ?_
    refine r_icmp_ge (f := (oI Sh)) (pc := 7) 22 d_X5_columns_7 (by decide) (fun c2 => ?_) (fun c2 => ?_)
    · refine r_iconst (pc := 22) (0 : Int32) d_X5_columns_22 rfl ?_
      exact r_iret (pc := 23) rfl d_X5_columns_23
    · refine r_iload (pc := 10) 4 d_X5_columns_10 rfl ?_
      refine r_if_lt (f := (oI Sh)) (pc := 12) 22 d_X5_columns_12 (by decide) (fun c3 => ?_) (fun c3 => ?_)
      · refine r_iconst (pc := 22) (0 : Int32) d_X5_columns_22 rfl ?_
        exact r_iret (pc := 23) rfl d_X5_columns_23
      · refine r_iload (pc := 15) 4 d_X5_columns_15 rfl ?_
        refine r_bipush (pc := 17) (100 : Int32) d_X5_columns_17 rfl ?_
        refine r_icmp_lt (f := (oI Sh)) (pc := 19) 24 d_X5_columns_19 (by decide) (fun c4 => ?_) (fun c4 => ?_)
        · refine r_iload_n (pc := 24) 3 d_X5_columns_24 rfl rfl ?_
          refine r_bipush (pc := 25) (100 : Int32) d_X5_columns_25 rfl ?_
          refine r_imul (pc := 27) d_X5_columns_27 ?_
          refine r_leti (f := (oI Sh)) (fun x5 => ?_)
          refine r_istore (pc := 28) (ls' := [(6, .int x5), (0, .ref 97), (1, .ref a1), (2, .int v2), (3, .int v3), (4, .int v4), (5, .int v5)]) d_X5_columns_28 (Nat.le_of_ble_eq_true rfl) rfl ?_
          refine r_aload_n (pc := 30) 1 d_X5_columns_30 rfl rfl ?_
          refine r_getR (pc := 31) g_X5_18 (K_97 h0) rfl (R_97_2 h0) d_X5_columns_31 ?_
          refine r_iload_n (pc := 34) 4 d_X5_columns_34 rfl rfl ?_
          refine r_ck (f := (oI Sh)) rfl (fun hc6 => ?_)
          refine q_iald (pc := 35) (j := v3.toNatClampNeg) (K_100 h0) hc6 rfl d_X5_columns_35 ?_
          refine r_leti (f := (oI Sh)) (fun x7 => ?_)
          refine r_istore (pc := 36) (ls' := [(7, .int x7), (6, .int x5), (0, .ref 97), (1, .ref a1), (2, .int v2), (3, .int v3), (4, .int v4), (5, .int v5)]) d_X5_columns_36 (Nat.le_of_ble_eq_true rfl) rfl ?_
          refine r_pick [2, 3, 4, 5, 6, 7, 1, 0] (ls' := [(0, .ref 97), (1, .ref a1), (2, .int v2), (3, .int v3), (4, .int v4), (5, .int v5), (6, .int x5), (7, .int x7)]) rfl ?_
          exact s_X5_columns_38 hst h0 hd h_a1 zFU  x5 x7 D
        · refine r_iconst (pc := 22) (0 : Int32) d_X5_columns_22 rfl ?_
          exact r_iret (pc := 23) rfl d_X5_columns_23

