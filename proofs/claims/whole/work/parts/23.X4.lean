/-! CoveredSigns$LeastPart.isHopeless -/
theorem d_X4_isHopeless_0 : decode (yB m_X4_isHopeless) 0 = .ok (.iconst 1, 1) := by decide +kernel
theorem d_X4_isHopeless_1 : decode (yB m_X4_isHopeless) 1 = .ok (.iload_n 3, 1) := by decide +kernel
theorem d_X4_isHopeless_2 : decode (yB m_X4_isHopeless) 2 = .ok (.ishl, 1) := by decide +kernel
theorem d_X4_isHopeless_3 : decode (yB m_X4_isHopeless) 3 = .ok (.iconst 1, 1) := by decide +kernel
theorem d_X4_isHopeless_4 : decode (yB m_X4_isHopeless) 4 = .ok (.isub, 1) := by decide +kernel
theorem d_X4_isHopeless_5 : decode (yB m_X4_isHopeless) 5 = .ok (.istore 4, 2) := by decide +kernel
theorem d_X4_isHopeless_7 : decode (yB m_X4_isHopeless) 7 = .ok (.iconst 0, 1) := by decide +kernel
theorem d_X4_isHopeless_8 : decode (yB m_X4_isHopeless) 8 = .ok (.istore 5, 2) := by decide +kernel
theorem d_X4_isHopeless_10 : decode (yB m_X4_isHopeless) 10 = .ok (.iconst 0, 1) := by decide +kernel
theorem d_X4_isHopeless_11 : decode (yB m_X4_isHopeless) 11 = .ok (.istore 6, 2) := by decide +kernel
theorem d_X4_isHopeless_13 : decode (yB m_X4_isHopeless) 13 = .ok (.iconst 0, 1) := by decide +kernel
theorem d_X4_isHopeless_14 : decode (yB m_X4_isHopeless) 14 = .ok (.istore 7, 2) := by decide +kernel
theorem d_X4_isHopeless_16 : decode (yB m_X4_isHopeless) 16 = .ok (.iload 7, 2) := by decide +kernel
theorem d_X4_isHopeless_18 : decode (yB m_X4_isHopeless) 18 = .ok (.aload_n 0, 1) := by decide +kernel
theorem d_X4_isHopeless_19 : decode (yB m_X4_isHopeless) 19 = .ok (.getfield 15, 3) := by decide +kernel
theorem d_X4_isHopeless_22 : decode (yB m_X4_isHopeless) 22 = .ok (.if_icmp .ge 92, 3) := by decide +kernel
theorem d_X4_isHopeless_25 : decode (yB m_X4_isHopeless) 25 = .ok (.iload 7, 2) := by decide +kernel
theorem d_X4_isHopeless_27 : decode (yB m_X4_isHopeless) 27 = .ok (.bipush 12, 2) := by decide +kernel
theorem d_X4_isHopeless_29 : decode (yB m_X4_isHopeless) 29 = .ok (.if_icmp .ge 85, 3) := by decide +kernel
theorem d_X4_isHopeless_32 : decode (yB m_X4_isHopeless) 32 = .ok (.aload_n 0, 1) := by decide +kernel
theorem d_X4_isHopeless_33 : decode (yB m_X4_isHopeless) 33 = .ok (.getfield 19, 3) := by decide +kernel
theorem d_X4_isHopeless_36 : decode (yB m_X4_isHopeless) 36 = .ok (.aload_n 0, 1) := by decide +kernel
theorem d_X4_isHopeless_37 : decode (yB m_X4_isHopeless) 37 = .ok (.getfield 9, 3) := by decide +kernel
theorem d_X4_isHopeless_40 : decode (yB m_X4_isHopeless) 40 = .ok (.iload 7, 2) := by decide +kernel
theorem d_X4_isHopeless_42 : decode (yB m_X4_isHopeless) 42 = .ok (.iaload, 1) := by decide +kernel
theorem d_X4_isHopeless_43 : decode (yB m_X4_isHopeless) 43 = .ok (.iload_n 1, 1) := by decide +kernel
theorem d_X4_isHopeless_44 : decode (yB m_X4_isHopeless) 44 = .ok (.iand, 1) := by decide +kernel
theorem d_X4_isHopeless_45 : decode (yB m_X4_isHopeless) 45 = .ok (.invokestatic 44, 3) := by decide +kernel
theorem d_X4_isHopeless_48 : decode (yB m_X4_isHopeless) 48 = .ok (.isub, 1) := by decide +kernel
theorem d_X4_isHopeless_49 : decode (yB m_X4_isHopeless) 49 = .ok (.istore 8, 2) := by decide +kernel
theorem d_X4_isHopeless_51 : decode (yB m_X4_isHopeless) 51 = .ok (.aload_n 0, 1) := by decide +kernel
theorem d_X4_isHopeless_52 : decode (yB m_X4_isHopeless) 52 = .ok (.getfield 9, 3) := by decide +kernel
theorem d_X4_isHopeless_55 : decode (yB m_X4_isHopeless) 55 = .ok (.iload 7, 2) := by decide +kernel
theorem d_X4_isHopeless_57 : decode (yB m_X4_isHopeless) 57 = .ok (.iaload, 1) := by decide +kernel
theorem d_X4_isHopeless_58 : decode (yB m_X4_isHopeless) 58 = .ok (.iload 4, 2) := by decide +kernel
theorem d_X4_isHopeless_60 : decode (yB m_X4_isHopeless) 60 = .ok (.iand, 1) := by decide +kernel
theorem d_X4_isHopeless_61 : decode (yB m_X4_isHopeless) 61 = .ok (.istore 9, 2) := by decide +kernel
theorem d_X4_isHopeless_63 : decode (yB m_X4_isHopeless) 63 = .ok (.iload 8, 2) := by decide +kernel
theorem d_X4_isHopeless_65 : decode (yB m_X4_isHopeless) 65 = .ok (.iload_n 2, 1) := by decide +kernel
theorem d_X4_isHopeless_66 : decode (yB m_X4_isHopeless) 66 = .ok (.if_icmp .gt 13, 3) := by decide +kernel
theorem d_X4_isHopeless_69 : decode (yB m_X4_isHopeless) 69 = .ok (.iload 8, 2) := by decide +kernel
theorem d_X4_isHopeless_71 : decode (yB m_X4_isHopeless) 71 = .ok (.iload 9, 2) := by decide +kernel
theorem d_X4_isHopeless_73 : decode (yB m_X4_isHopeless) 73 = .ok (.invokestatic 44, 3) := by decide +kernel
theorem d_X4_isHopeless_76 : decode (yB m_X4_isHopeless) 76 = .ok (.if_icmp .le 5, 3) := by decide +kernel
theorem d_X4_isHopeless_79 : decode (yB m_X4_isHopeless) 79 = .ok (.iconst 1, 1) := by decide +kernel
theorem d_X4_isHopeless_80 : decode (yB m_X4_isHopeless) 80 = .ok (.ireturn, 1) := by decide +kernel
theorem d_X4_isHopeless_81 : decode (yB m_X4_isHopeless) 81 = .ok (.iload 8, 2) := by decide +kernel
theorem d_X4_isHopeless_83 : decode (yB m_X4_isHopeless) 83 = .ok (.ifCond .le 25, 3) := by decide +kernel
theorem d_X4_isHopeless_86 : decode (yB m_X4_isHopeless) 86 = .ok (.iload 9, 2) := by decide +kernel
theorem d_X4_isHopeless_88 : decode (yB m_X4_isHopeless) 88 = .ok (.iload 5, 2) := by decide +kernel
theorem d_X4_isHopeless_90 : decode (yB m_X4_isHopeless) 90 = .ok (.iand, 1) := by decide +kernel
theorem d_X4_isHopeless_91 : decode (yB m_X4_isHopeless) 91 = .ok (.ifCond .ne 17, 3) := by decide +kernel
theorem d_X4_isHopeless_94 : decode (yB m_X4_isHopeless) 94 = .ok (.iload 5, 2) := by decide +kernel
theorem d_X4_isHopeless_96 : decode (yB m_X4_isHopeless) 96 = .ok (.iload 9, 2) := by decide +kernel
theorem d_X4_isHopeless_98 : decode (yB m_X4_isHopeless) 98 = .ok (.ior, 1) := by decide +kernel
theorem d_X4_isHopeless_99 : decode (yB m_X4_isHopeless) 99 = .ok (.istore 5, 2) := by decide +kernel
theorem d_X4_isHopeless_101 : decode (yB m_X4_isHopeless) 101 = .ok (.iload 6, 2) := by decide +kernel
theorem d_X4_isHopeless_103 : decode (yB m_X4_isHopeless) 103 = .ok (.iload 8, 2) := by decide +kernel
theorem d_X4_isHopeless_105 : decode (yB m_X4_isHopeless) 105 = .ok (.iadd, 1) := by decide +kernel
theorem d_X4_isHopeless_106 : decode (yB m_X4_isHopeless) 106 = .ok (.istore 6, 2) := by decide +kernel
theorem d_X4_isHopeless_108 : decode (yB m_X4_isHopeless) 108 = .ok (.iinc 7 1, 3) := by decide +kernel
theorem d_X4_isHopeless_111 : decode (yB m_X4_isHopeless) 111 = .ok (.goto (-95), 3) := by decide +kernel
theorem d_X4_isHopeless_114 : decode (yB m_X4_isHopeless) 114 = .ok (.iload 6, 2) := by decide +kernel
theorem d_X4_isHopeless_116 : decode (yB m_X4_isHopeless) 116 = .ok (.iload_n 2, 1) := by decide +kernel
theorem d_X4_isHopeless_117 : decode (yB m_X4_isHopeless) 117 = .ok (.if_icmp .le 7, 3) := by decide +kernel
theorem d_X4_isHopeless_120 : decode (yB m_X4_isHopeless) 120 = .ok (.iconst 1, 1) := by decide +kernel
theorem d_X4_isHopeless_121 : decode (yB m_X4_isHopeless) 121 = .ok (.goto 4, 3) := by decide +kernel
theorem d_X4_isHopeless_124 : decode (yB m_X4_isHopeless) 124 = .ok (.iconst 0, 1) := by decide +kernel
theorem d_X4_isHopeless_125 : decode (yB m_X4_isHopeless) 125 = .ok (.ireturn, 1) := by decide +kernel
def fn_X4_isHopeless_114 (v1 : Int32) (v2 : Int32) (v3 : Int32) (D : zD) (v6 : Int32) : Option Int32 := (if v6 ≤ v2 then ((some (0 : Int32))) else ((some (1 : Int32))))
def fn_X4_isHopeless_16 (v1 : Int32) (v2 : Int32) (v3 : Int32) (D : zD) : Nat → Int32 → Int32 → Int32 → Int32 → Option Int32
  | 0, _, _, _, _ => none
  | n + 1, v4, v5, v6, v7 => (if (gI D 90 1) ≤ v7 then ((fn_X4_isHopeless_114 v1 v2 v3 D v6)) else ((if (12 : Int32) ≤ v7 then ((fn_X4_isHopeless_114 v1 v2 v3 D v6)) else (zck v7 12 <| (fn_JI_bitCount ((gI D 91 v7.toNatClampNeg) &&& v1)).bind fun x6 => zlet ((gI D 90 2) - x6) fun x7 => zck v7 12 <| zlet ((gI D 91 v7.toNatClampNeg) &&& v4) fun x9 => (if v2 < x7 then ((some (1 : Int32))) else ((fn_JI_bitCount x9).bind fun x11 => (if x7 ≤ x11 then ((if x7 ≤ 0 then (((fn_X4_isHopeless_16 v1 v2 v3 D n) v4 v5 v6 (v7 + (1 : Int32)))) else ((if (x9 &&& v5) = 0 then (zlet (v5 ||| x9) fun x15 => zlet (v6 + x7) fun x16 => ((fn_X4_isHopeless_16 v1 v2 v3 D n) v4 x15 x16 (v7 + (1 : Int32)))) else (((fn_X4_isHopeless_16 v1 v2 v3 D n) v4 v5 v6 (v7 + (1 : Int32)))))))) else ((some (1 : Int32))))))))))
def fn_X4_isHopeless (v1 : Int32) (v2 : Int32) (v3 : Int32) (D : zD) : Option Int32 := zlet (((1 : Int32) <<< (v3 &&& 31)) - (1 : Int32)) fun x1 => (fn_X4_isHopeless_16 v1 v2 v3 D zFU x1 (0 : Int32) (0 : Int32) (0 : Int32))
theorem s_X4_isHopeless_114 {X : zX} {Sh : zSh} {d : Nat} (hst : (zl X).stackTraces = false) (h0 : zSh0 Sh) (hd : 1 ≤ d) {v1 : Int32} {v2 : Int32} {v3 : Int32} (D : zD) (v6 : Int32)  : Rn X m_X4_isHopeless (d + 1) 114 [(2, .int v2), (6, .int v6)] [] (Sh, D) ((oP Sh D) (fn_X4_isHopeless_114 v1 v2 v3 D v6)) := by
  rw [fn_X4_isHopeless_114]
  refine r_iload (pc := 114) 1 d_X4_isHopeless_114 rfl ?_
  refine r_iload_n (pc := 116) 0 d_X4_isHopeless_116 rfl rfl ?_
  refine r_icmp_le (f := (oP Sh D)) (pc := 117) 124 d_X4_isHopeless_117 (by decide) (fun c3 => ?_) (fun c3 => ?_)
  · refine r_iconst (pc := 124) (0 : Int32) d_X4_isHopeless_124 rfl ?_
    exact r_zret (pc := 125) rfl (by decide) d_X4_isHopeless_125
  · refine r_iconst (pc := 120) (1 : Int32) d_X4_isHopeless_120 rfl ?_
    refine r_goto (pc := 121) 125 d_X4_isHopeless_121 (by decide) ?_
    exact r_zret (pc := 125) rfl (by decide) d_X4_isHopeless_125
theorem s_X4_isHopeless_16 {X : zX} {Sh : zSh} {d : Nat} (hst : (zl X).stackTraces = false) (h0 : zSh0 Sh) (hd : 1 ≤ d) {v1 : Int32} {v2 : Int32} {v3 : Int32} (D : zD) : ∀ (n : Nat) (v4 : Int32) (v5 : Int32) (v6 : Int32) (v7 : Int32) , Rn X m_X4_isHopeless (d + 1) 16 [(0, .ref 90), (1, .int v1), (2, .int v2), (4, .int v4), (5, .int v5), (6, .int v6), (7, .int v7)] [] (Sh, D) ((oP Sh D) (fn_X4_isHopeless_16 v1 v2 v3 D n v4 v5 v6 v7)) := by
  intro n
  induction n with
  | zero => intro v4 v5 v6 v7; exact Rn_none rfl
  | succ n hk16 =>
    intro v4 v5 v6 v7
    rw [fn_X4_isHopeless_16]
    refine r_iload (pc := 16) 6 d_X4_isHopeless_16 rfl ?_
    refine r_aload_n (pc := 18) 0 d_X4_isHopeless_18 rfl rfl ?_
    refine q_gI (pc := 19) g_X4_15 (K_90 h0) rfl d_X4_isHopeless_19 ?_
    refine r_icmp_ge (f := (oP Sh D)) (pc := 22) 114 d_X4_isHopeless_22 (by decide) (fun c2 => ?_) (fun c2 => ?_)
    · refine r_pick [2, 5] (ls' := [(2, .int v2), (6, .int v6)]) rfl ?_
      exact s_X4_isHopeless_114 hst h0 hd D v6
    · refine r_iload (pc := 25) 6 d_X4_isHopeless_25 rfl ?_
      refine r_bipush (pc := 27) (12 : Int32) d_X4_isHopeless_27 rfl ?_
      refine r_icmp_ge (f := (oP Sh D)) (pc := 29) 114 d_X4_isHopeless_29 (by decide) (fun c4 => ?_) (fun c4 => ?_)
      · refine r_pick [2, 5] (ls' := [(2, .int v2), (6, .int v6)]) rfl ?_
        exact s_X4_isHopeless_114 hst h0 hd D v6
      · refine r_aload_n (pc := 32) 0 d_X4_isHopeless_32 rfl rfl ?_
        refine q_gI (pc := 33) g_X4_19 (K_90 h0) rfl d_X4_isHopeless_33 ?_
        refine r_aload_n (pc := 36) 0 d_X4_isHopeless_36 rfl rfl ?_
        refine r_getR (pc := 37) g_X4_9 (K_90 h0) rfl (R_90_0 h0) d_X4_isHopeless_37 ?_
        refine r_iload (pc := 40) 6 d_X4_isHopeless_40 rfl ?_
        refine r_ck (f := (oP Sh D)) rfl (fun hc5 => ?_)
        refine q_iald (pc := 42) (j := v7.toNatClampNeg) (K_91 h0) hc5 rfl d_X4_isHopeless_42 ?_
        refine r_iload_n (pc := 43) 1 d_X4_isHopeless_43 rfl rfl ?_
        refine r_iand (pc := 44) d_X4_isHopeless_44 ?_
        refine q_cP (f := (oP Sh D)) (av := [.int ((gI D 91 v7.toNatClampNeg) &&& v1)]) (st := [.int (gI D 90 2)]) (z_runS ck_JI_bitCount rfl ml_X4_44 cs_JI_bitCount rfl (Nat.le_of_ble_eq_true rfl) d_X4_isHopeless_45) (s_JI_bitCount hst h0 (by omega)) kp_P (fun x6 _ => ?_)
        refine r_isub (pc := 48) d_X4_isHopeless_48 ?_
        refine r_leti (f := (oP Sh D)) (fun x7 => ?_)
        refine r_istore (pc := 49) (ls' := [(8, .int x7), (0, .ref 90), (1, .int v1), (2, .int v2), (4, .int v4), (5, .int v5), (6, .int v6), (7, .int v7)]) d_X4_isHopeless_49 (Nat.le_of_ble_eq_true rfl) rfl ?_
        refine r_aload_n (pc := 51) 1 d_X4_isHopeless_51 rfl rfl ?_
        refine r_getR (pc := 52) g_X4_9 (K_90 h0) rfl (R_90_0 h0) d_X4_isHopeless_52 ?_
        refine r_iload (pc := 55) 7 d_X4_isHopeless_55 rfl ?_
        refine r_ck (f := (oP Sh D)) rfl (fun hc8 => ?_)
        refine q_iald (pc := 57) (j := v7.toNatClampNeg) (K_91 h0) hc8 rfl d_X4_isHopeless_57 ?_
        refine r_iload (pc := 58) 4 d_X4_isHopeless_58 rfl ?_
        refine r_iand (pc := 60) d_X4_isHopeless_60 ?_
        refine r_leti (f := (oP Sh D)) (fun x9 => ?_)
        refine r_istore (pc := 61) (ls' := [(9, .int x9), (8, .int x7), (0, .ref 90), (1, .int v1), (2, .int v2), (4, .int v4), (5, .int v5), (6, .int v6), (7, .int v7)]) d_X4_isHopeless_61 (Nat.le_of_ble_eq_true rfl) rfl ?_
        refine r_iload (pc := 63) 1 d_X4_isHopeless_63 rfl ?_
        refine r_iload_n (pc := 65) 4 d_X4_isHopeless_65 rfl rfl ?_
        refine r_icmp_gt (f := (oP Sh D)) (pc := 66) 79 d_X4_isHopeless_66 (by decide) (fun c10 => ?_) (fun c10 => ?_)
        · refine r_iconst (pc := 79) (1 : Int32) d_X4_isHopeless_79 rfl ?_
          exact r_zret (pc := 80) rfl (by decide) d_X4_isHopeless_80
        · refine r_iload (pc := 69) 1 d_X4_isHopeless_69 rfl ?_
          refine r_iload (pc := 71) 0 d_X4_isHopeless_71 rfl ?_
          refine q_cP (f := (oP Sh D)) (av := [.int x9]) (st := [.int x7]) (z_runS ck_JI_bitCount rfl ml_X4_44 cs_JI_bitCount rfl (Nat.le_of_ble_eq_true rfl) d_X4_isHopeless_73) (s_JI_bitCount hst h0 (by omega)) kp_P (fun x11 _ => ?_)
          refine r_icmp_le (f := (oP Sh D)) (pc := 76) 81 d_X4_isHopeless_76 (by decide) (fun c12 => ?_) (fun c12 => ?_)
          · refine r_iload (pc := 81) 1 d_X4_isHopeless_81 rfl ?_
            refine r_if_le (f := (oP Sh D)) (pc := 83) 108 d_X4_isHopeless_83 (by decide) (fun c13 => ?_) (fun c13 => ?_)
            · refine r_iinc (pc := 108) ((v7 + (1 : Int32))) 8 (ls' := [(7, .int (v7 + (1 : Int32))), (9, .int x9), (8, .int x7), (0, .ref 90), (1, .int v1), (2, .int v2), (4, .int v4), (5, .int v5), (6, .int v6)]) d_X4_isHopeless_108 rfl rfl (Nat.le_of_ble_eq_true rfl) rfl ?_
              refine r_goto (pc := 111) 16 d_X4_isHopeless_111 (by decide) ?_
              refine r_pick [3, 4, 5, 6, 7, 8, 0] (ls' := [(0, .ref 90), (1, .int v1), (2, .int v2), (4, .int v4), (5, .int v5), (6, .int v6), (7, .int (v7 + (1 : Int32)))]) rfl ?_
              exact hk16 v4 v5 v6 (v7 + (1 : Int32)) 
            · refine r_iload (pc := 86) 0 d_X4_isHopeless_86 rfl ?_
              refine r_iload (pc := 88) 6 d_X4_isHopeless_88 rfl ?_
              refine r_iand (pc := 90) d_X4_isHopeless_90 ?_
              refine r_if_ne (f := (oP Sh D)) (pc := 91) 108 d_X4_isHopeless_91 (by decide) (fun c14 => ?_) (fun c14 => ?_)
              · refine r_iinc (pc := 108) ((v7 + (1 : Int32))) 8 (ls' := [(7, .int (v7 + (1 : Int32))), (9, .int x9), (8, .int x7), (0, .ref 90), (1, .int v1), (2, .int v2), (4, .int v4), (5, .int v5), (6, .int v6)]) d_X4_isHopeless_108 rfl rfl (Nat.le_of_ble_eq_true rfl) rfl ?_
                refine r_goto (pc := 111) 16 d_X4_isHopeless_111 (by decide) ?_
                refine r_pick [3, 4, 5, 6, 7, 8, 0] (ls' := [(0, .ref 90), (1, .int v1), (2, .int v2), (4, .int v4), (5, .int v5), (6, .int v6), (7, .int (v7 + (1 : Int32)))]) rfl ?_
                exact hk16 v4 v5 v6 (v7 + (1 : Int32)) 
              · refine r_iload (pc := 94) 6 d_X4_isHopeless_94 rfl ?_
                refine r_iload (pc := 96) 0 d_X4_isHopeless_96 rfl ?_
                refine r_ior (pc := 98) d_X4_isHopeless_98 ?_
                refine r_leti (f := (oP Sh D)) (fun x15 => ?_)
                refine r_istore (pc := 99) (ls' := [(5, .int x15), (9, .int x9), (8, .int x7), (0, .ref 90), (1, .int v1), (2, .int v2), (4, .int v4), (6, .int v6), (7, .int v7)]) d_X4_isHopeless_99 (Nat.le_of_ble_eq_true rfl) rfl ?_
                refine r_iload (pc := 101) 7 d_X4_isHopeless_101 rfl ?_
                refine r_iload (pc := 103) 2 d_X4_isHopeless_103 rfl ?_
                refine r_iadd (pc := 105) d_X4_isHopeless_105 ?_
                refine r_leti (f := (oP Sh D)) (fun x16 => ?_)
                refine r_istore (pc := 106) (ls' := [(6, .int x16), (5, .int x15), (9, .int x9), (8, .int x7), (0, .ref 90), (1, .int v1), (2, .int v2), (4, .int v4), (7, .int v7)]) d_X4_isHopeless_106 (Nat.le_of_ble_eq_true rfl) rfl ?_
                refine r_iinc (pc := 108) ((v7 + (1 : Int32))) 8 (ls' := [(7, .int (v7 + (1 : Int32))), (6, .int x16), (5, .int x15), (9, .int x9), (8, .int x7), (0, .ref 90), (1, .int v1), (2, .int v2), (4, .int v4)]) d_X4_isHopeless_108 rfl rfl (Nat.le_of_ble_eq_true rfl) rfl ?_
                refine r_goto (pc := 111) 16 d_X4_isHopeless_111 (by decide) ?_
                refine r_pick [5, 6, 7, 8, 2, 1, 0] (ls' := [(0, .ref 90), (1, .int v1), (2, .int v2), (4, .int v4), (5, .int x15), (6, .int x16), (7, .int (v7 + (1 : Int32)))]) rfl ?_
                exact hk16 v4 x15 x16 (v7 + (1 : Int32)) 
          · refine r_iconst (pc := 79) (1 : Int32) d_X4_isHopeless_79 rfl ?_
            exact r_zret (pc := 80) rfl (by decide) d_X4_isHopeless_80
theorem s_X4_isHopeless {X : zX} {Sh : zSh} {d : Nat} (hst : (zl X).stackTraces = false) (h0 : zSh0 Sh) (hd : 2 ≤ d) {v1 : Int32} {v2 : Int32} {v3 : Int32} {D : zD} : Sd X m_X4_isHopeless d [.ref 90, .int v1, .int v2, .int v3] (Sh, D) ((oP Sh D) (fn_X4_isHopeless v1 v2 v3 D)) := by
  obtain ⟨d, rfl⟩ : ∃ e, d = e + 1 := ⟨d - 1, by omega⟩
  replace hd : 1 ≤ d := by omega
  refine z_body ck_X4_isHopeless rfl (Nat.le_of_ble_eq_true rfl) rfl hst ?_
  rw [fn_X4_isHopeless]
  show Rn X m_X4_isHopeless (d + 1) 0 [(0, .ref 90), (1, .int v1), (2, .int v2), (3, .int v3)] [] (Sh, D) _
  refine r_iconst (pc := 0) (1 : Int32) d_X4_isHopeless_0 rfl ?_
  refine r_iload_n (pc := 1) 3 d_X4_isHopeless_1 rfl rfl ?_
  refine r_ishl (pc := 2) d_X4_isHopeless_2 ?_
  refine r_iconst (pc := 3) (1 : Int32) d_X4_isHopeless_3 rfl ?_
  refine r_isub (pc := 4) d_X4_isHopeless_4 ?_
  refine r_leti (f := (oP Sh D)) (fun x1 => ?_)
  refine r_istore (pc := 5) (ls' := [(4, .int x1), (0, .ref 90), (1, .int v1), (2, .int v2), (3, .int v3)]) d_X4_isHopeless_5 (Nat.le_of_ble_eq_true rfl) rfl ?_
  refine r_iconst (pc := 7) (0 : Int32) d_X4_isHopeless_7 rfl ?_
  refine r_istore (pc := 8) (ls' := [(5, .int (0 : Int32)), (4, .int x1), (0, .ref 90), (1, .int v1), (2, .int v2), (3, .int v3)]) d_X4_isHopeless_8 (Nat.le_of_ble_eq_true rfl) rfl ?_
  refine r_iconst (pc := 10) (0 : Int32) d_X4_isHopeless_10 rfl ?_
  refine r_istore (pc := 11) (ls' := [(6, .int (0 : Int32)), (5, .int (0 : Int32)), (4, .int x1), (0, .ref 90), (1, .int v1), (2, .int v2), (3, .int v3)]) d_X4_isHopeless_11 (Nat.le_of_ble_eq_true rfl) rfl ?_
  refine r_iconst (pc := 13) (0 : Int32) d_X4_isHopeless_13 rfl ?_
  refine r_istore (pc := 14) (ls' := [(7, .int (0 : Int32)), (6, .int (0 : Int32)), (5, .int (0 : Int32)), (4, .int x1), (0, .ref 90), (1, .int v1), (2, .int v2), (3, .int v3)]) d_X4_isHopeless_14 (Nat.le_of_ble_eq_true rfl) rfl ?_
  refine r_pick [4, 5, 6, 3, 2, 1, 0] (ls' := [(0, .ref 90), (1, .int v1), (2, .int v2), (4, .int x1), (5, .int (0 : Int32)), (6, .int (0 : Int32)), (7, .int (0 : Int32))]) rfl ?_
  exact s_X4_isHopeless_16 hst h0 hd D zFU  x1 (0 : Int32) (0 : Int32) (0 : Int32)
/-! CoveredSigns$LeastPart.grows -/
theorem d_X4_grows_0 : decode (yB m_X4_grows) 0 = .ok (.iload_n 2, 1) := by decide +kernel
theorem d_X4_grows_1 : decode (yB m_X4_grows) 1 = .ok (.ifCond .lt 19, 3) := by decide +kernel
theorem d_X4_grows_4 : decode (yB m_X4_grows) 4 = .ok (.iload_n 2, 1) := by decide +kernel
theorem d_X4_grows_5 : decode (yB m_X4_grows) 5 = .ok (.bipush 6, 2) := by decide +kernel
theorem d_X4_grows_7 : decode (yB m_X4_grows) 7 = .ok (.if_icmp .gt 13, 3) := by decide +kernel
theorem d_X4_grows_10 : decode (yB m_X4_grows) 10 = .ok (.aload_n 0, 1) := by decide +kernel
theorem d_X4_grows_11 : decode (yB m_X4_grows) 11 = .ok (.iload_n 1, 1) := by decide +kernel
theorem d_X4_grows_12 : decode (yB m_X4_grows) 12 = .ok (.iload_n 2, 1) := by decide +kernel
theorem d_X4_grows_13 : decode (yB m_X4_grows) 13 = .ok (.iload_n 3, 1) := by decide +kernel
theorem d_X4_grows_14 : decode (yB m_X4_grows) 14 = .ok (.invokevirtual 39, 3) := by decide +kernel
theorem d_X4_grows_17 : decode (yB m_X4_grows) 17 = .ok (.ifCond .eq 5, 3) := by decide +kernel
theorem d_X4_grows_20 : decode (yB m_X4_grows) 20 = .ok (.iconst 0, 1) := by decide +kernel
theorem d_X4_grows_21 : decode (yB m_X4_grows) 21 = .ok (.ireturn, 1) := by decide +kernel
theorem d_X4_grows_22 : decode (yB m_X4_grows) 22 = .ok (.iload_n 2, 1) := by decide +kernel
theorem d_X4_grows_23 : decode (yB m_X4_grows) 23 = .ok (.ifCond .ne 10, 3) := by decide +kernel
theorem d_X4_grows_26 : decode (yB m_X4_grows) 26 = .ok (.aload_n 0, 1) := by decide +kernel
theorem d_X4_grows_27 : decode (yB m_X4_grows) 27 = .ok (.iload_n 1, 1) := by decide +kernel
theorem d_X4_grows_28 : decode (yB m_X4_grows) 28 = .ok (.putfield 42, 3) := by decide +kernel
theorem d_X4_grows_31 : decode (yB m_X4_grows) 31 = .ok (.iconst 1, 1) := by decide +kernel
theorem d_X4_grows_32 : decode (yB m_X4_grows) 32 = .ok (.ireturn, 1) := by decide +kernel
theorem d_X4_grows_33 : decode (yB m_X4_grows) 33 = .ok (.iload_n 2, 1) := by decide +kernel
theorem d_X4_grows_34 : decode (yB m_X4_grows) 34 = .ok (.iconst 1, 1) := by decide +kernel
theorem d_X4_grows_35 : decode (yB m_X4_grows) 35 = .ok (.isub, 1) := by decide +kernel
theorem d_X4_grows_36 : decode (yB m_X4_grows) 36 = .ok (.istore 4, 2) := by decide +kernel
theorem d_X4_grows_38 : decode (yB m_X4_grows) 38 = .ok (.iload 4, 2) := by decide +kernel
theorem d_X4_grows_40 : decode (yB m_X4_grows) 40 = .ok (.iload_n 3, 1) := by decide +kernel
theorem d_X4_grows_41 : decode (yB m_X4_grows) 41 = .ok (.if_icmp .ge 29, 3) := by decide +kernel
theorem d_X4_grows_44 : decode (yB m_X4_grows) 44 = .ok (.aload_n 0, 1) := by decide +kernel
theorem d_X4_grows_45 : decode (yB m_X4_grows) 45 = .ok (.iload_n 1, 1) := by decide +kernel
theorem d_X4_grows_46 : decode (yB m_X4_grows) 46 = .ok (.iconst 1, 1) := by decide +kernel
theorem d_X4_grows_47 : decode (yB m_X4_grows) 47 = .ok (.iload 4, 2) := by decide +kernel
theorem d_X4_grows_49 : decode (yB m_X4_grows) 49 = .ok (.ishl, 1) := by decide +kernel
theorem d_X4_grows_50 : decode (yB m_X4_grows) 50 = .ok (.ior, 1) := by decide +kernel
theorem d_X4_grows_51 : decode (yB m_X4_grows) 51 = .ok (.iload_n 2, 1) := by decide +kernel
theorem d_X4_grows_52 : decode (yB m_X4_grows) 52 = .ok (.iconst 1, 1) := by decide +kernel
theorem d_X4_grows_53 : decode (yB m_X4_grows) 53 = .ok (.isub, 1) := by decide +kernel
theorem d_X4_grows_54 : decode (yB m_X4_grows) 54 = .ok (.iload 4, 2) := by decide +kernel
theorem d_X4_grows_56 : decode (yB m_X4_grows) 56 = .ok (.invokevirtual 35, 3) := by decide +kernel
theorem d_X4_grows_59 : decode (yB m_X4_grows) 59 = .ok (.ifCond .eq 5, 3) := by decide +kernel
theorem d_X4_grows_62 : decode (yB m_X4_grows) 62 = .ok (.iconst 1, 1) := by decide +kernel
theorem d_X4_grows_63 : decode (yB m_X4_grows) 63 = .ok (.ireturn, 1) := by decide +kernel
theorem d_X4_grows_64 : decode (yB m_X4_grows) 64 = .ok (.iinc 4 1, 3) := by decide +kernel
theorem d_X4_grows_67 : decode (yB m_X4_grows) 67 = .ok (.goto (-29), 3) := by decide +kernel
theorem d_X4_grows_70 : decode (yB m_X4_grows) 70 = .ok (.iconst 0, 1) := by decide +kernel
theorem d_X4_grows_71 : decode (yB m_X4_grows) 71 = .ok (.ireturn, 1) := by decide +kernel
def fn_X4_grows_38 (f_X4_grows : Int32 → Int32 → Int32 → zD → Option (Int32 × zD)) (v1 : Int32) (v2 : Int32) (v3 : Int32) : Nat → Int32 → zD → Option (Int32 × zD)
  | 0, _, _ => none
  | n + 1, v4, D => (if v3 ≤ v4 then ((some ((0 : Int32), D))) else ((f_X4_grows (v1 ||| ((1 : Int32) <<< (v4 &&& 31))) (v2 - (1 : Int32)) v4 D).bind fun q8 => (if q8.1 = 0 then (((fn_X4_grows_38 f_X4_grows v1 v2 v3 n) (v4 + (1 : Int32)) q8.2)) else ((some ((1 : Int32), q8.2))))))
def fn_X4_grows (f_X4_grows : Int32 → Int32 → Int32 → zD → Option (Int32 × zD)) (v1 : Int32) (v2 : Int32) (v3 : Int32) (D : zD) : Option (Int32 × zD) := (if v2 < 0 then ((some ((0 : Int32), D))) else ((if (6 : Int32) < v2 then ((some ((0 : Int32), D))) else ((fn_X4_isHopeless v1 v2 v3 D).bind fun x3 => (if x3 = 0 then ((if v2 = 0 then (zlet (sI D 90 3 v1) fun D10 => (some ((1 : Int32), D10))) else (zlet (v2 - (1 : Int32)) fun x6 => (fn_X4_grows_38 f_X4_grows v1 v2 v3 zFU x6 D)))) else ((some ((0 : Int32), D))))))))
theorem s_X4_grows_38 {X : zX} {Sh : zSh} {d : Nat} (hst : (zl X).stackTraces = false) (h0 : zSh0 Sh) (hd : 2 ≤ d) {v1 : Int32} {v2 : Int32} {v3 : Int32} (f_X4_grows : Int32 → Int32 → Int32 → zD → Option (Int32 × zD)) (hf_X4_grows : ∀ (v1 : Int32) (v2 : Int32) (v3 : Int32) (D : zD), Sd X m_X4_grows d [.ref 90, .int v1, .int v2, .int v3] (Sh, D) ((oI Sh) (f_X4_grows v1 v2 v3 D))) : ∀ (n : Nat) (v4 : Int32) (D : zD) , Rn X m_X4_grows (d + 1) 38 [(0, .ref 90), (1, .int v1), (2, .int v2), (3, .int v3), (4, .int v4)] [] (Sh, D) ((oI Sh) (fn_X4_grows_38 f_X4_grows v1 v2 v3 n v4 D)) := by
  intro n
  induction n with
  | zero => intro v4 D; exact Rn_none rfl
  | succ n hk38 =>
    intro v4 D
    rw [fn_X4_grows_38]
    refine r_iload (pc := 38) 4 d_X4_grows_38 rfl ?_
    refine r_iload_n (pc := 40) 3 d_X4_grows_40 rfl rfl ?_
    refine r_icmp_ge (f := (oI Sh)) (pc := 41) 70 d_X4_grows_41 (by decide) (fun c7 => ?_) (fun c7 => ?_)
    · refine r_iconst (pc := 70) (0 : Int32) d_X4_grows_70 rfl ?_
      exact r_zret (pc := 71) rfl (by decide) d_X4_grows_71
    · refine r_aload_n (pc := 44) 0 d_X4_grows_44 rfl rfl ?_
      refine r_iload_n (pc := 45) 1 d_X4_grows_45 rfl rfl ?_
      refine r_iconst (pc := 46) (1 : Int32) d_X4_grows_46 rfl ?_
      refine r_iload (pc := 47) 4 d_X4_grows_47 rfl ?_
      refine r_ishl (pc := 49) d_X4_grows_49 ?_
      refine r_ior (pc := 50) d_X4_grows_50 ?_
      refine r_iload_n (pc := 51) 2 d_X4_grows_51 rfl rfl ?_
      refine r_iconst (pc := 52) (1 : Int32) d_X4_grows_52 rfl ?_
      refine r_isub (pc := 53) d_X4_grows_53 ?_
      refine r_iload (pc := 54) 4 d_X4_grows_54 rfl ?_
      refine q_cI (f := (oI Sh)) (av := [.ref 90, .int (v1 ||| ((1 : Int32) <<< (v4 &&& 31))), .int (v2 - (1 : Int32)), .int v4]) (st := []) (z_runV ck_X4_grows rfl ml_X4_35 ci_X4_grows cv_X4_grows (K_90 h0) (ci := 4) rfl rfl (Nat.le_of_ble_eq_true rfl) d_X4_grows_56) (hf_X4_grows (v1 ||| ((1 : Int32) <<< (v4 &&& 31))) (v2 - (1 : Int32)) v4 D) kp_I (fun q8 _ => ?_)
      refine r_if_eq (f := (oI Sh)) (pc := 59) 64 d_X4_grows_59 (by decide) (fun c9 => ?_) (fun c9 => ?_)
      · refine r_iinc (pc := 64) ((v4 + (1 : Int32))) 4 (ls' := [(4, .int (v4 + (1 : Int32))), (0, .ref 90), (1, .int v1), (2, .int v2), (3, .int v3)]) d_X4_grows_64 rfl rfl (Nat.le_of_ble_eq_true rfl) rfl ?_
        refine r_goto (pc := 67) 38 d_X4_grows_67 (by decide) ?_
        refine r_pick [1, 2, 3, 4, 0] (ls' := [(0, .ref 90), (1, .int v1), (2, .int v2), (3, .int v3), (4, .int (v4 + (1 : Int32)))]) rfl ?_
        exact hk38 (v4 + (1 : Int32)) q8.2 
      · refine r_iconst (pc := 62) (1 : Int32) d_X4_grows_62 rfl ?_
        exact r_zret (pc := 63) rfl (by decide) d_X4_grows_63
theorem b_X4_grows {X : zX} {Sh : zSh} {d : Nat} (hst : (zl X).stackTraces = false) (h0 : zSh0 Sh) (hd : 2 ≤ d) {v1 : Int32} {v2 : Int32} {v3 : Int32} (f_X4_grows : Int32 → Int32 → Int32 → zD → Option (Int32 × zD)) (hf_X4_grows : ∀ (v1 : Int32) (v2 : Int32) (v3 : Int32) (D : zD), Sd X m_X4_grows d [.ref 90, .int v1, .int v2, .int v3] (Sh, D) ((oI Sh) (f_X4_grows v1 v2 v3 D))) {D : zD} : Sd X m_X4_grows (d + 1) [.ref 90, .int v1, .int v2, .int v3] (Sh, D) ((oI Sh) (fn_X4_grows f_X4_grows v1 v2 v3 D)) := by
  refine z_body ck_X4_grows rfl (Nat.le_of_ble_eq_true rfl) rfl hst ?_
  rw [fn_X4_grows]
  show Rn X m_X4_grows (d + 1) 0 [(0, .ref 90), (1, .int v1), (2, .int v2), (3, .int v3)] [] (Sh, D) _
  refine r_iload_n (pc := 0) 2 d_X4_grows_0 rfl rfl ?_
  refine r_if_lt (f := (oI Sh)) (pc := 1) 20 d_X4_grows_1 (by decide) (fun c1 => ?_) (fun c1 => ?_)
  · refine r_iconst (pc := 20) (0 : Int32) d_X4_grows_20 rfl ?_
    exact r_zret (pc := 21) rfl (by decide) d_X4_grows_21
  · refine r_iload_n (pc := 4) 2 d_X4_grows_4 rfl rfl ?_
    refine r_bipush (pc := 5) (6 : Int32) d_X4_grows_5 rfl ?_
    refine r_icmp_gt (f := (oI Sh)) (pc := 7) 20 d_X4_grows_7 (by decide) (fun c2 => ?_) (fun c2 => ?_)
    · refine r_iconst (pc := 20) (0 : Int32) d_X4_grows_20 rfl ?_
      exact r_zret (pc := 21) rfl (by decide) d_X4_grows_21
    · refine r_aload_n (pc := 10) 0 d_X4_grows_10 rfl rfl ?_
      refine r_iload_n (pc := 11) 1 d_X4_grows_11 rfl rfl ?_
      refine r_iload_n (pc := 12) 2 d_X4_grows_12 rfl rfl ?_
      refine r_iload_n (pc := 13) 3 d_X4_grows_13 rfl rfl ?_
      refine q_cP (f := (oI Sh)) (av := [.ref 90, .int v1, .int v2, .int v3]) (st := []) (z_runV ck_X4_isHopeless rfl ml_X4_39 ci_X4_isHopeless cv_X4_isHopeless (K_90 h0) (ci := 4) rfl rfl (Nat.le_of_ble_eq_true rfl) d_X4_grows_14) (s_X4_isHopeless hst h0 (by omega)) kp_I (fun x3 _ => ?_)
      refine r_if_eq (f := (oI Sh)) (pc := 17) 22 d_X4_grows_17 (by decide) (fun c4 => ?_) (fun c4 => ?_)
      · refine r_iload_n (pc := 22) 2 d_X4_grows_22 rfl rfl ?_
        refine r_if_ne (f := (oI Sh)) (pc := 23) 33 d_X4_grows_23 (by decide) (fun c5 => ?_) (fun c5 => ?_)
        · refine r_iload_n (pc := 33) 2 d_X4_grows_33 rfl rfl ?_
          refine r_iconst (pc := 34) (1 : Int32) d_X4_grows_34 rfl ?_
          refine r_isub (pc := 35) d_X4_grows_35 ?_
          refine r_leti (f := (oI Sh)) (fun x6 => ?_)
          refine r_istore (pc := 36) (ls' := [(4, .int x6), (0, .ref 90), (1, .int v1), (2, .int v2), (3, .int v3)]) d_X4_grows_36 (Nat.le_of_ble_eq_true rfl) rfl ?_
          refine r_pick [1, 2, 3, 4, 0] (ls' := [(0, .ref 90), (1, .int v1), (2, .int v2), (3, .int v3), (4, .int x6)]) rfl ?_
          exact s_X4_grows_38 hst h0 hd f_X4_grows hf_X4_grows zFU  x6 D
        · refine r_aload_n (pc := 26) 0 d_X4_grows_26 rfl rfl ?_
          refine r_iload_n (pc := 27) 1 d_X4_grows_27 rfl rfl ?_
          refine r_putI (pc := 28) p_X4_42 (K_90 h0) rfl (Or.inl rfl) d_X4_grows_28 ?_
          refine r_letD (f := (oI Sh)) (fun D10 => ?_)
          refine r_iconst (pc := 31) (1 : Int32) d_X4_grows_31 rfl ?_
          exact r_zret (pc := 32) rfl (by decide) d_X4_grows_32
      · refine r_iconst (pc := 20) (0 : Int32) d_X4_grows_20 rfl ?_
        exact r_zret (pc := 21) rfl (by decide) d_X4_grows_21
def fn_X4_growsR : Nat → Int32 → Int32 → Int32 → zD → Option (Int32 × zD)
  | 0, _, _, _, _ => none
  | n + 1, v1, v2, v3, D => fn_X4_grows (fn_X4_growsR n) v1 v2 v3 D
theorem s_X4_growsR {X : zX} {Sh : zSh} (hst : (zl X).stackTraces = false) (h0 : zSh0 Sh) : ∀ (n d : Nat) (hd : n * 1 + 2 ≤ d) (v1 : Int32) (v2 : Int32) (v3 : Int32) (D : zD) , Sd X m_X4_grows d [.ref 90, .int v1, .int v2, .int v3] (Sh, D) ((oI Sh) (fn_X4_growsR n v1 v2 v3 D))
  | 0, d, _, _, _, _, _ => fun o M' h => by cases h
  | n + 1, d, hd, v1, v2, v3, D => by
    obtain ⟨d, rfl⟩ : ∃ e, d = e + 1 := ⟨d - 1, by omega⟩
    exact b_X4_grows hst h0 (by omega) (fn_X4_growsR n) (fun v1 v2 v3 D  => s_X4_growsR hst h0 n d (by omega) v1 v2 v3 D ) 
def fn_X4_growsT (v1 : Int32) (v2 : Int32) (v3 : Int32) (D : zD) : Option (Int32 × zD) := fn_X4_growsR 100 v1 v2 v3 D
theorem s_X4_growsT {X : zX} {Sh : zSh} {d : Nat} (hst : (zl X).stackTraces = false) (h0 : zSh0 Sh) (hd : 102 ≤ d) {v1 : Int32} {v2 : Int32} {v3 : Int32}  {D : zD} : Sd X m_X4_grows d [.ref 90, .int v1, .int v2, .int v3] (Sh, D) ((oI Sh) (fn_X4_growsT v1 v2 v3 D)) := s_X4_growsR hst h0 100 d (by omega) v1 v2 v3 D 
/-! CoveredSigns$LeastPart.find -/
theorem d_X4_find_0 : decode (yB m_X4_find) 0 = .ok (.aload_n 0, 1) := by decide +kernel
theorem d_X4_find_1 : decode (yB m_X4_find) 1 = .ok (.iconst 0, 1) := by decide +kernel
theorem d_X4_find_2 : decode (yB m_X4_find) 2 = .ok (.putfield 15, 3) := by decide +kernel
theorem d_X4_find_5 : decode (yB m_X4_find) 5 = .ok (.aload_n 0, 1) := by decide +kernel
theorem d_X4_find_6 : decode (yB m_X4_find) 6 = .ok (.iload_n 3, 1) := by decide +kernel
theorem d_X4_find_7 : decode (yB m_X4_find) 7 = .ok (.putfield 19, 3) := by decide +kernel
theorem d_X4_find_10 : decode (yB m_X4_find) 10 = .ok (.iconst 0, 1) := by decide +kernel
theorem d_X4_find_11 : decode (yB m_X4_find) 11 = .ok (.istore 4, 2) := by decide +kernel
theorem d_X4_find_13 : decode (yB m_X4_find) 13 = .ok (.iload 4, 2) := by decide +kernel
theorem d_X4_find_15 : decode (yB m_X4_find) 15 = .ok (.aload_n 1, 1) := by decide +kernel
theorem d_X4_find_16 : decode (yB m_X4_find) 16 = .ok (.getfield 22, 3) := by decide +kernel
theorem d_X4_find_19 : decode (yB m_X4_find) 19 = .ok (.if_icmp .ge 62, 3) := by decide +kernel
theorem d_X4_find_22 : decode (yB m_X4_find) 22 = .ok (.iload 4, 2) := by decide +kernel
theorem d_X4_find_24 : decode (yB m_X4_find) 24 = .ok (.iload_n 2, 1) := by decide +kernel
theorem d_X4_find_25 : decode (yB m_X4_find) 25 = .ok (.if_icmp .eq 50, 3) := by decide +kernel
theorem d_X4_find_28 : decode (yB m_X4_find) 28 = .ok (.aload_n 0, 1) := by decide +kernel
theorem d_X4_find_29 : decode (yB m_X4_find) 29 = .ok (.getfield 15, 3) := by decide +kernel
theorem d_X4_find_32 : decode (yB m_X4_find) 32 = .ok (.ifCond .lt 43, 3) := by decide +kernel
theorem d_X4_find_35 : decode (yB m_X4_find) 35 = .ok (.aload_n 0, 1) := by decide +kernel
theorem d_X4_find_36 : decode (yB m_X4_find) 36 = .ok (.getfield 15, 3) := by decide +kernel
theorem d_X4_find_39 : decode (yB m_X4_find) 39 = .ok (.bipush 12, 2) := by decide +kernel
theorem d_X4_find_41 : decode (yB m_X4_find) 41 = .ok (.if_icmp .ge 34, 3) := by decide +kernel
theorem d_X4_find_44 : decode (yB m_X4_find) 44 = .ok (.aload_n 0, 1) := by decide +kernel
theorem d_X4_find_45 : decode (yB m_X4_find) 45 = .ok (.getfield 9, 3) := by decide +kernel
theorem d_X4_find_48 : decode (yB m_X4_find) 48 = .ok (.aload_n 0, 1) := by decide +kernel
theorem d_X4_find_49 : decode (yB m_X4_find) 49 = .ok (.getfield 15, 3) := by decide +kernel
theorem d_X4_find_52 : decode (yB m_X4_find) 52 = .ok (.aload_n 1, 1) := by decide +kernel
theorem d_X4_find_53 : decode (yB m_X4_find) 53 = .ok (.iload_n 2, 1) := by decide +kernel
theorem d_X4_find_54 : decode (yB m_X4_find) 54 = .ok (.invokevirtual 27, 3) := by decide +kernel
theorem d_X4_find_57 : decode (yB m_X4_find) 57 = .ok (.aload_n 1, 1) := by decide +kernel
theorem d_X4_find_58 : decode (yB m_X4_find) 58 = .ok (.iload 4, 2) := by decide +kernel
theorem d_X4_find_60 : decode (yB m_X4_find) 60 = .ok (.invokevirtual 27, 3) := by decide +kernel
theorem d_X4_find_63 : decode (yB m_X4_find) 63 = .ok (.ixor, 1) := by decide +kernel
theorem d_X4_find_64 : decode (yB m_X4_find) 64 = .ok (.iastore, 1) := by decide +kernel
theorem d_X4_find_65 : decode (yB m_X4_find) 65 = .ok (.aload_n 0, 1) := by decide +kernel
theorem d_X4_find_66 : decode (yB m_X4_find) 66 = .ok (.dup, 1) := by decide +kernel
theorem d_X4_find_67 : decode (yB m_X4_find) 67 = .ok (.getfield 15, 3) := by decide +kernel
theorem d_X4_find_70 : decode (yB m_X4_find) 70 = .ok (.iconst 1, 1) := by decide +kernel
theorem d_X4_find_71 : decode (yB m_X4_find) 71 = .ok (.iadd, 1) := by decide +kernel
theorem d_X4_find_72 : decode (yB m_X4_find) 72 = .ok (.putfield 15, 3) := by decide +kernel
theorem d_X4_find_75 : decode (yB m_X4_find) 75 = .ok (.iinc 4 1, 3) := by decide +kernel
theorem d_X4_find_78 : decode (yB m_X4_find) 78 = .ok (.goto (-65), 3) := by decide +kernel
theorem d_X4_find_81 : decode (yB m_X4_find) 81 = .ok (.iconst 0, 1) := by decide +kernel
theorem d_X4_find_82 : decode (yB m_X4_find) 82 = .ok (.istore 4, 2) := by decide +kernel
theorem d_X4_find_84 : decode (yB m_X4_find) 84 = .ok (.iload 4, 2) := by decide +kernel
theorem d_X4_find_86 : decode (yB m_X4_find) 86 = .ok (.bipush 6, 2) := by decide +kernel
theorem d_X4_find_88 : decode (yB m_X4_find) 88 = .ok (.if_icmp .gt 25, 3) := by decide +kernel
theorem d_X4_find_91 : decode (yB m_X4_find) 91 = .ok (.aload_n 0, 1) := by decide +kernel
theorem d_X4_find_92 : decode (yB m_X4_find) 92 = .ok (.iconst 0, 1) := by decide +kernel
theorem d_X4_find_93 : decode (yB m_X4_find) 93 = .ok (.iload 4, 2) := by decide +kernel
theorem d_X4_find_95 : decode (yB m_X4_find) 95 = .ok (.aload_n 1, 1) := by decide +kernel
theorem d_X4_find_96 : decode (yB m_X4_find) 96 = .ok (.invokevirtual 31, 3) := by decide +kernel
theorem d_X4_find_99 : decode (yB m_X4_find) 99 = .ok (.invokevirtual 35, 3) := by decide +kernel
theorem d_X4_find_102 : decode (yB m_X4_find) 102 = .ok (.ifCond .eq 5, 3) := by decide +kernel
theorem d_X4_find_105 : decode (yB m_X4_find) 105 = .ok (.iconst 1, 1) := by decide +kernel
theorem d_X4_find_106 : decode (yB m_X4_find) 106 = .ok (.ireturn, 1) := by decide +kernel
theorem d_X4_find_107 : decode (yB m_X4_find) 107 = .ok (.iinc 4 1, 3) := by decide +kernel
theorem d_X4_find_110 : decode (yB m_X4_find) 110 = .ok (.goto (-26), 3) := by decide +kernel
theorem d_X4_find_113 : decode (yB m_X4_find) 113 = .ok (.iconst 0, 1) := by decide +kernel
theorem d_X4_find_114 : decode (yB m_X4_find) 114 = .ok (.ireturn, 1) := by decide +kernel
def fn_X4_find_84 (a1 : Nat) (v2 : Int32) (v3 : Int32) : Nat → Int32 → zD → Option (Int32 × zD)
  | 0, _, _ => none
  | n + 1, v4, D => (if (6 : Int32) < v4 then ((some ((0 : Int32), D))) else ((fn_X0_cells a1 D).bind fun x5 => (fn_X4_growsT (0 : Int32) v4 x5 D).bind fun q6 => (if q6.1 = 0 then (((fn_X4_find_84 a1 v2 v3 n) (v4 + (1 : Int32)) q6.2)) else ((some ((1 : Int32), q6.2))))))
def fn_X4_find_13 (a1 : Nat) (v2 : Int32) (v3 : Int32) : Nat → Int32 → zD → Option (Int32 × zD)
  | 0, _, _ => none
  | n + 1, v4, D => (if (gI D a1 2) ≤ v4 then ((fn_X4_find_84 a1 v2 v3 zFU (0 : Int32) D)) else ((if v4 = v2 then (((fn_X4_find_13 a1 v2 v3 n) (v4 + (1 : Int32)) D)) else ((if (gI D 90 1) < 0 then (((fn_X4_find_13 a1 v2 v3 n) (v4 + (1 : Int32)) D)) else ((if (12 : Int32) ≤ (gI D 90 1) then (((fn_X4_find_13 a1 v2 v3 n) (v4 + (1 : Int32)) D)) else ((fn_X0_paintOf a1 v2 D).bind fun x11 => (fn_X0_paintOf a1 v4 D).bind fun x12 => zck (gI D 90 1) 12 <| zlet (sI D 91 (gI D 90 1).toNatClampNeg (x11 ^^^ x12)) fun D14 => zlet (sI D14 90 1 ((gI D14 90 1) + (1 : Int32))) fun D15 => ((fn_X4_find_13 a1 v2 v3 n) (v4 + (1 : Int32)) D15)))))))))
def fn_X4_find (a1 : Nat) (v2 : Int32) (v3 : Int32) (D : zD) : Option (Int32 × zD) := zlet (sI D 90 1 (0 : Int32)) fun D1 => zlet (sI D1 90 2 v3) fun D2 => (fn_X4_find_13 a1 v2 v3 zFU (0 : Int32) D2)
theorem s_X4_find_84 {X : zX} {Sh : zSh} {d : Nat} (hst : (zl X).stackTraces = false) (h0 : zSh0 Sh) (hd : 102 ≤ d) {a1 : Nat} {v2 : Int32} {v3 : Int32} (h_a1 : a1 ∈ zI_0) : ∀ (n : Nat) (v4 : Int32) (D : zD) , Rn X m_X4_find (d + 1) 84 [(0, .ref 90), (1, .ref a1), (4, .int v4)] [] (Sh, D) ((oI Sh) (fn_X4_find_84 a1 v2 v3 n v4 D)) := by
  intro n
  induction n with
  | zero => intro v4 D; exact Rn_none rfl
  | succ n hk84 =>
    intro v4 D
    rw [fn_X4_find_84]
    refine r_iload (pc := 84) 2 d_X4_find_84 rfl ?_
    refine r_bipush (pc := 86) (6 : Int32) d_X4_find_86 rfl ?_
    refine r_icmp_gt (f := (oI Sh)) (pc := 88) 113 d_X4_find_88 (by decide) (fun c4 => ?_) (fun c4 => ?_)
    · refine r_iconst (pc := 113) (0 : Int32) d_X4_find_113 rfl ?_
      exact r_zret (pc := 114) rfl (by decide) d_X4_find_114
    · refine r_aload_n (pc := 91) 0 d_X4_find_91 rfl rfl ?_
      refine r_iconst (pc := 92) (0 : Int32) d_X4_find_92 rfl ?_
      refine r_iload (pc := 93) 2 d_X4_find_93 rfl ?_
      refine r_aload_n (pc := 95) 1 d_X4_find_95 rfl rfl ?_
      refine q_cP (f := (oI Sh)) (av := [.ref a1]) (st := [.int v4, .int (0 : Int32), .ref 90]) (z_runV ck_X0_cells rfl ml_X4_31 ci_X0_cells cv_X0_cells (LK_0 h0 h_a1) (ci := 0) rfl rfl (Nat.le_of_ble_eq_true rfl) d_X4_find_96) (s_X0_cells hst h0 (by omega) h_a1) kp_I (fun x5 _ => ?_)
      refine q_cI (f := (oI Sh)) (av := [.ref 90, .int (0 : Int32), .int v4, .int x5]) (st := []) (z_runV ck_X4_grows rfl ml_X4_35 ci_X4_grows cv_X4_grows (K_90 h0) (ci := 4) rfl rfl (Nat.le_of_ble_eq_true rfl) d_X4_find_99) (s_X4_growsT hst h0 (by omega)) kp_I (fun q6 _ => ?_)
      refine r_if_eq (f := (oI Sh)) (pc := 102) 107 d_X4_find_102 (by decide) (fun c7 => ?_) (fun c7 => ?_)
      · refine r_iinc (pc := 107) ((v4 + (1 : Int32))) 2 (ls' := [(4, .int (v4 + (1 : Int32))), (0, .ref 90), (1, .ref a1)]) d_X4_find_107 rfl rfl (Nat.le_of_ble_eq_true rfl) rfl ?_
        refine r_goto (pc := 110) 84 d_X4_find_110 (by decide) ?_
        refine r_pick [1, 2, 0] (ls' := [(0, .ref 90), (1, .ref a1), (4, .int (v4 + (1 : Int32)))]) rfl ?_
        exact hk84 (v4 + (1 : Int32)) q6.2 
      · refine r_iconst (pc := 105) (1 : Int32) d_X4_find_105 rfl ?_
        exact r_zret (pc := 106) rfl (by decide) d_X4_find_106
theorem s_X4_find_13 {X : zX} {Sh : zSh} {d : Nat} (hst : (zl X).stackTraces = false) (h0 : zSh0 Sh) (hd : 102 ≤ d) {a1 : Nat} {v2 : Int32} {v3 : Int32} (h_a1 : a1 ∈ zI_0) : ∀ (n : Nat) (v4 : Int32) (D : zD) , Rn X m_X4_find (d + 1) 13 [(0, .ref 90), (1, .ref a1), (2, .int v2), (4, .int v4)] [] (Sh, D) ((oI Sh) (fn_X4_find_13 a1 v2 v3 n v4 D)) := by
  intro n
  induction n with
  | zero => intro v4 D; exact Rn_none rfl
  | succ n hk13 =>
    intro v4 D
    rw [fn_X4_find_13]
    refine r_iload (pc := 13) 3 d_X4_find_13 rfl ?_
    refine r_aload_n (pc := 15) 1 d_X4_find_15 rfl rfl ?_
    refine q_gIn (pc := 16) g_X4_22 (LK_0 h0 h_a1) rfl d_X4_find_16 ?_
    refine r_icmp_ge (f := (oI Sh)) (pc := 19) 81 d_X4_find_19 (by decide) (fun c3 => ?_) (fun c3 => ?_)
    · refine r_iconst (pc := 81) (0 : Int32) d_X4_find_81 rfl ?_
      refine r_istore (pc := 82) (ls' := [(4, .int (0 : Int32)), (0, .ref 90), (1, .ref a1), (2, .int v2)]) d_X4_find_82 (Nat.le_of_ble_eq_true rfl) rfl ?_
      refine r_pick [1, 2, 0] (ls' := [(0, .ref 90), (1, .ref a1), (4, .int (0 : Int32))]) rfl ?_
      exact s_X4_find_84 hst h0 hd h_a1 zFU  (0 : Int32) D
    · refine r_iload (pc := 22) 3 d_X4_find_22 rfl ?_
      refine r_iload_n (pc := 24) 2 d_X4_find_24 rfl rfl ?_
      refine r_icmp_eq (f := (oI Sh)) (pc := 25) 75 d_X4_find_25 (by decide) (fun c8 => ?_) (fun c8 => ?_)
      · refine r_iinc (pc := 75) ((v4 + (1 : Int32))) 3 (ls' := [(4, .int (v4 + (1 : Int32))), (0, .ref 90), (1, .ref a1), (2, .int v2)]) d_X4_find_75 rfl rfl (Nat.le_of_ble_eq_true rfl) rfl ?_
        refine r_goto (pc := 78) 13 d_X4_find_78 (by decide) ?_
        refine r_pick [1, 2, 3, 0] (ls' := [(0, .ref 90), (1, .ref a1), (2, .int v2), (4, .int (v4 + (1 : Int32)))]) rfl ?_
        exact hk13 (v4 + (1 : Int32)) D 
      · refine r_aload_n (pc := 28) 0 d_X4_find_28 rfl rfl ?_
        refine q_gI (pc := 29) g_X4_15 (K_90 h0) rfl d_X4_find_29 ?_
        refine r_if_lt (f := (oI Sh)) (pc := 32) 75 d_X4_find_32 (by decide) (fun c9 => ?_) (fun c9 => ?_)
        · refine r_iinc (pc := 75) ((v4 + (1 : Int32))) 3 (ls' := [(4, .int (v4 + (1 : Int32))), (0, .ref 90), (1, .ref a1), (2, .int v2)]) d_X4_find_75 rfl rfl (Nat.le_of_ble_eq_true rfl) rfl ?_
          refine r_goto (pc := 78) 13 d_X4_find_78 (by decide) ?_
          refine r_pick [1, 2, 3, 0] (ls' := [(0, .ref 90), (1, .ref a1), (2, .int v2), (4, .int (v4 + (1 : Int32)))]) rfl ?_
          exact hk13 (v4 + (1 : Int32)) D 
        · refine r_aload_n (pc := 35) 0 d_X4_find_35 rfl rfl ?_
          refine q_gI (pc := 36) g_X4_15 (K_90 h0) rfl d_X4_find_36 ?_
          refine r_bipush (pc := 39) (12 : Int32) d_X4_find_39 rfl ?_
          refine r_icmp_ge (f := (oI Sh)) (pc := 41) 75 d_X4_find_41 (by decide) (fun c10 => ?_) (fun c10 => ?_)
          · refine r_iinc (pc := 75) ((v4 + (1 : Int32))) 3 (ls' := [(4, .int (v4 + (1 : Int32))), (0, .ref 90), (1, .ref a1), (2, .int v2)]) d_X4_find_75 rfl rfl (Nat.le_of_ble_eq_true rfl) rfl ?_
            refine r_goto (pc := 78) 13 d_X4_find_78 (by decide) ?_
            refine r_pick [1, 2, 3, 0] (ls' := [(0, .ref 90), (1, .ref a1), (2, .int v2), (4, .int (v4 + (1 : Int32)))]) rfl ?_
            exact hk13 (v4 + (1 : Int32)) D 
          · refine r_aload_n (pc := 44) 0 d_X4_find_44 rfl rfl ?_
            refine r_getR (pc := 45) g_X4_9 (K_90 h0) rfl (R_90_0 h0) d_X4_find_45 ?_
            refine r_aload_n (pc := 48) 0 d_X4_find_48 rfl rfl ?_
            refine q_gI (pc := 49) g_X4_15 (K_90 h0) rfl d_X4_find_49 ?_
            refine r_aload_n (pc := 52) 1 d_X4_find_52 rfl rfl ?_
            refine r_iload_n (pc := 53) 2 d_X4_find_53 rfl rfl ?_
            refine q_cP (f := (oI Sh)) (av := [.ref a1, .int v2]) (st := [.int (gI D 90 1), .ref 91]) (z_runV ck_X0_paintOf rfl ml_X4_27 ci_X0_paintOf cv_X0_paintOf (LK_0 h0 h_a1) (ci := 0) rfl rfl (Nat.le_of_ble_eq_true rfl) d_X4_find_54) (s_X0_paintOf hst h0 (by omega) h_a1) kp_I (fun x11 _ => ?_)
            refine r_aload_n (pc := 57) 1 d_X4_find_57 rfl rfl ?_
            refine r_iload (pc := 58) 3 d_X4_find_58 rfl ?_
            refine q_cP (f := (oI Sh)) (av := [.ref a1, .int v4]) (st := [.int x11, .int (gI D 90 1), .ref 91]) (z_runV ck_X0_paintOf rfl ml_X4_27 ci_X0_paintOf cv_X0_paintOf (LK_0 h0 h_a1) (ci := 0) rfl rfl (Nat.le_of_ble_eq_true rfl) d_X4_find_60) (s_X0_paintOf hst h0 (by omega) h_a1) kp_I (fun x12 _ => ?_)
            refine r_ixor (pc := 63) d_X4_find_63 ?_
            refine r_ck (f := (oI Sh)) rfl (fun hc13 => ?_)
            refine q_iast (pc := 64) (j := (gI D 90 1).toNatClampNeg) (K_91 h0) hc13 rfl  d_X4_find_64 ?_
            refine r_letD (f := (oI Sh)) (fun D14 => ?_)
            refine r_aload_n (pc := 65) 0 d_X4_find_65 rfl rfl ?_
            refine r_dup (pc := 66) d_X4_find_66 rfl ?_
            refine q_gI (pc := 67) g_X4_15 (K_90 h0) rfl d_X4_find_67 ?_
            refine r_iconst (pc := 70) (1 : Int32) d_X4_find_70 rfl ?_
            refine r_iadd (pc := 71) d_X4_find_71 ?_
            refine r_putI (pc := 72) p_X4_15 (K_90 h0) rfl (Or.inl rfl) d_X4_find_72 ?_
            refine r_letD (f := (oI Sh)) (fun D15 => ?_)
            refine r_iinc (pc := 75) ((v4 + (1 : Int32))) 3 (ls' := [(4, .int (v4 + (1 : Int32))), (0, .ref 90), (1, .ref a1), (2, .int v2)]) d_X4_find_75 rfl rfl (Nat.le_of_ble_eq_true rfl) rfl ?_
            refine r_goto (pc := 78) 13 d_X4_find_78 (by decide) ?_
            refine r_pick [1, 2, 3, 0] (ls' := [(0, .ref 90), (1, .ref a1), (2, .int v2), (4, .int (v4 + (1 : Int32)))]) rfl ?_
            exact hk13 (v4 + (1 : Int32)) D15 
theorem s_X4_find {X : zX} {Sh : zSh} {d : Nat} (hst : (zl X).stackTraces = false) (h0 : zSh0 Sh) (hd : 103 ≤ d) {a1 : Nat} {v2 : Int32} {v3 : Int32} (h_a1 : a1 ∈ zI_0) {D : zD} : Sd X m_X4_find d [.ref 90, .ref a1, .int v2, .int v3] (Sh, D) ((oI Sh) (fn_X4_find a1 v2 v3 D)) := by
  obtain ⟨d, rfl⟩ : ∃ e, d = e + 1 := ⟨d - 1, by omega⟩
  replace hd : 102 ≤ d := by omega
  refine z_body ck_X4_find rfl (Nat.le_of_ble_eq_true rfl) rfl hst ?_
  rw [fn_X4_find]
  show Rn X m_X4_find (d + 1) 0 [(0, .ref 90), (1, .ref a1), (2, .int v2), (3, .int v3)] [] (Sh, D) _
  refine r_aload_n (pc := 0) 0 d_X4_find_0 rfl rfl ?_
  refine r_iconst (pc := 1) (0 : Int32) d_X4_find_1 rfl ?_
  refine r_putI (pc := 2) p_X4_15 (K_90 h0) rfl (Or.inl rfl) d_X4_find_2 ?_
  refine r_letD (f := (oI Sh)) (fun D1 => ?_)
  refine r_aload_n (pc := 5) 0 d_X4_find_5 rfl rfl ?_
  refine r_iload_n (pc := 6) 3 d_X4_find_6 rfl rfl ?_
  refine r_putI (pc := 7) p_X4_19 (K_90 h0) rfl (Or.inl rfl) d_X4_find_7 ?_
  refine r_letD (f := (oI Sh)) (fun D2 => ?_)
  refine r_iconst (pc := 10) (0 : Int32) d_X4_find_10 rfl ?_
  refine r_istore (pc := 11) (ls' := [(4, .int (0 : Int32)), (0, .ref 90), (1, .ref a1), (2, .int v2), (3, .int v3)]) d_X4_find_11 (Nat.le_of_ble_eq_true rfl) rfl ?_
  refine r_pick [1, 2, 3, 0] (ls' := [(0, .ref 90), (1, .ref a1), (2, .int v2), (4, .int (0 : Int32))]) rfl ?_
  exact s_X4_find_13 hst h0 hd h_a1 zFU  (0 : Int32) D2

