/-! CoveredSigns$Repair.stepIsDone -/
theorem d_X6_stepIsDone_0 : decode (yB m_X6_stepIsDone) 0 = .ok (.aload_n 0, 1) := by decide +kernel
theorem d_X6_stepIsDone_1 : decode (yB m_X6_stepIsDone) 1 = .ok (.getfield 9, 3) := by decide +kernel
theorem d_X6_stepIsDone_4 : decode (yB m_X6_stepIsDone) 4 = .ok (.getfield 25, 3) := by decide +kernel
theorem d_X6_stepIsDone_7 : decode (yB m_X6_stepIsDone) 7 = .ok (.istore_n 1, 1) := by decide +kernel
theorem d_X6_stepIsDone_8 : decode (yB m_X6_stepIsDone) 8 = .ok (.iconst (-1), 1) := by decide +kernel
theorem d_X6_stepIsDone_9 : decode (yB m_X6_stepIsDone) 9 = .ok (.istore_n 2, 1) := by decide +kernel
theorem d_X6_stepIsDone_10 : decode (yB m_X6_stepIsDone) 10 = .ok (.iconst (-1), 1) := by decide +kernel
theorem d_X6_stepIsDone_11 : decode (yB m_X6_stepIsDone) 11 = .ok (.istore_n 3, 1) := by decide +kernel
theorem d_X6_stepIsDone_12 : decode (yB m_X6_stepIsDone) 12 = .ok (.iconst 0, 1) := by decide +kernel
theorem d_X6_stepIsDone_13 : decode (yB m_X6_stepIsDone) 13 = .ok (.istore 4, 2) := by decide +kernel
theorem d_X6_stepIsDone_15 : decode (yB m_X6_stepIsDone) 15 = .ok (.iload 4, 2) := by decide +kernel
theorem d_X6_stepIsDone_17 : decode (yB m_X6_stepIsDone) 17 = .ok (.aload_n 0, 1) := by decide +kernel
theorem d_X6_stepIsDone_18 : decode (yB m_X6_stepIsDone) 18 = .ok (.getfield 9, 3) := by decide +kernel
theorem d_X6_stepIsDone_21 : decode (yB m_X6_stepIsDone) 21 = .ok (.getfield 38, 3) := by decide +kernel
theorem d_X6_stepIsDone_24 : decode (yB m_X6_stepIsDone) 24 = .ok (.if_icmp .ge 58, 3) := by decide +kernel
theorem d_X6_stepIsDone_27 : decode (yB m_X6_stepIsDone) 27 = .ok (.iconst 0, 1) := by decide +kernel
theorem d_X6_stepIsDone_28 : decode (yB m_X6_stepIsDone) 28 = .ok (.istore 5, 2) := by decide +kernel
theorem d_X6_stepIsDone_30 : decode (yB m_X6_stepIsDone) 30 = .ok (.iload 5, 2) := by decide +kernel
theorem d_X6_stepIsDone_32 : decode (yB m_X6_stepIsDone) 32 = .ok (.aload_n 0, 1) := by decide +kernel
theorem d_X6_stepIsDone_33 : decode (yB m_X6_stepIsDone) 33 = .ok (.getfield 9, 3) := by decide +kernel
theorem d_X6_stepIsDone_36 : decode (yB m_X6_stepIsDone) 36 = .ok (.getfield 48, 3) := by decide +kernel
theorem d_X6_stepIsDone_39 : decode (yB m_X6_stepIsDone) 39 = .ok (.if_icmp .ge 37, 3) := by decide +kernel
theorem d_X6_stepIsDone_42 : decode (yB m_X6_stepIsDone) 42 = .ok (.aload_n 0, 1) := by decide +kernel
theorem d_X6_stepIsDone_43 : decode (yB m_X6_stepIsDone) 43 = .ok (.getfield 9, 3) := by decide +kernel
theorem d_X6_stepIsDone_46 : decode (yB m_X6_stepIsDone) 46 = .ok (.iload 4, 2) := by decide +kernel
theorem d_X6_stepIsDone_48 : decode (yB m_X6_stepIsDone) 48 = .ok (.iload 5, 2) := by decide +kernel
theorem d_X6_stepIsDone_50 : decode (yB m_X6_stepIsDone) 50 = .ok (.invokevirtual 70, 3) := by decide +kernel
theorem d_X6_stepIsDone_53 : decode (yB m_X6_stepIsDone) 53 = .ok (.istore 6, 2) := by decide +kernel
theorem d_X6_stepIsDone_55 : decode (yB m_X6_stepIsDone) 55 = .ok (.iload 6, 2) := by decide +kernel
theorem d_X6_stepIsDone_57 : decode (yB m_X6_stepIsDone) 57 = .ok (.iload_n 1, 1) := by decide +kernel
theorem d_X6_stepIsDone_58 : decode (yB m_X6_stepIsDone) 58 = .ok (.if_icmp .ge 12, 3) := by decide +kernel
theorem d_X6_stepIsDone_61 : decode (yB m_X6_stepIsDone) 61 = .ok (.iload 6, 2) := by decide +kernel
theorem d_X6_stepIsDone_63 : decode (yB m_X6_stepIsDone) 63 = .ok (.istore_n 1, 1) := by decide +kernel
theorem d_X6_stepIsDone_64 : decode (yB m_X6_stepIsDone) 64 = .ok (.iload 4, 2) := by decide +kernel
theorem d_X6_stepIsDone_66 : decode (yB m_X6_stepIsDone) 66 = .ok (.istore_n 2, 1) := by decide +kernel
theorem d_X6_stepIsDone_67 : decode (yB m_X6_stepIsDone) 67 = .ok (.iload 5, 2) := by decide +kernel
theorem d_X6_stepIsDone_69 : decode (yB m_X6_stepIsDone) 69 = .ok (.istore_n 3, 1) := by decide +kernel
theorem d_X6_stepIsDone_70 : decode (yB m_X6_stepIsDone) 70 = .ok (.iinc 5 1, 3) := by decide +kernel
theorem d_X6_stepIsDone_73 : decode (yB m_X6_stepIsDone) 73 = .ok (.goto (-43), 3) := by decide +kernel
theorem d_X6_stepIsDone_76 : decode (yB m_X6_stepIsDone) 76 = .ok (.iinc 4 1, 3) := by decide +kernel
theorem d_X6_stepIsDone_79 : decode (yB m_X6_stepIsDone) 79 = .ok (.goto (-64), 3) := by decide +kernel
theorem d_X6_stepIsDone_82 : decode (yB m_X6_stepIsDone) 82 = .ok (.iload_n 2, 1) := by decide +kernel
theorem d_X6_stepIsDone_83 : decode (yB m_X6_stepIsDone) 83 = .ok (.iconst (-1), 1) := by decide +kernel
theorem d_X6_stepIsDone_84 : decode (yB m_X6_stepIsDone) 84 = .ok (.if_icmp .ne 5, 3) := by decide +kernel
theorem d_X6_stepIsDone_87 : decode (yB m_X6_stepIsDone) 87 = .ok (.iconst 0, 1) := by decide +kernel
theorem d_X6_stepIsDone_88 : decode (yB m_X6_stepIsDone) 88 = .ok (.ireturn, 1) := by decide +kernel
theorem d_X6_stepIsDone_89 : decode (yB m_X6_stepIsDone) 89 = .ok (.aload_n 0, 1) := by decide +kernel
theorem d_X6_stepIsDone_90 : decode (yB m_X6_stepIsDone) 90 = .ok (.getfield 9, 3) := by decide +kernel
theorem d_X6_stepIsDone_93 : decode (yB m_X6_stepIsDone) 93 = .ok (.iload_n 2, 1) := by decide +kernel
theorem d_X6_stepIsDone_94 : decode (yB m_X6_stepIsDone) 94 = .ok (.iload_n 3, 1) := by decide +kernel
theorem d_X6_stepIsDone_95 : decode (yB m_X6_stepIsDone) 95 = .ok (.invokevirtual 58, 3) := by decide +kernel
theorem d_X6_stepIsDone_98 : decode (yB m_X6_stepIsDone) 98 = .ok (.iconst 1, 1) := by decide +kernel
theorem d_X6_stepIsDone_99 : decode (yB m_X6_stepIsDone) 99 = .ok (.ireturn, 1) := by decide +kernel
def fn_X6_stepIsDone_82  (v2 : Int32) (v3 : Int32) (D : zD) : Option (Int32 × zD) := (if v2 = (-1 : Int32) then ((some ((0 : Int32), D))) else ((fn_X10_flip 86 v2 v3 D).bind fun D4 => (some ((1 : Int32), D4))))
def fn_X6_stepIsDone_30 (k15 : Int32 → Int32 → Int32 → Int32 → zD → Option (Int32 × zD)) : Nat → Int32 → Int32 → Int32 → Int32 → Int32 → zD → Option (Int32 × zD)
  | 0, _, _, _, _, _, _ => none
  | n + 1, v1, v2, v3, v4, v5, D => (if (gI D 86 5) ≤ v5 then ((k15 v1 v2 v3 (v4 + (1 : Int32)) D)) else ((fn_X10_pairsWith 86 v4 v5 D).bind fun x6 => (if v1 ≤ x6 then (((fn_X6_stepIsDone_30 k15 n) v1 v2 v3 v4 (v5 + (1 : Int32)) D)) else (((fn_X6_stepIsDone_30 k15 n) x6 v4 v5 v4 (v5 + (1 : Int32)) D)))))
def fn_X6_stepIsDone_15  : Nat → Int32 → Int32 → Int32 → Int32 → zD → Option (Int32 × zD)
  | 0, _, _, _, _, _ => none
  | n + 1, v1, v2, v3, v4, D => (if (gI D 86 4) ≤ v4 then ((fn_X6_stepIsDone_82 v2 v3 D)) else ((fn_X6_stepIsDone_30 (fn_X6_stepIsDone_15  n) zFU v1 v2 v3 v4 (0 : Int32) D)))
def fn_X6_stepIsDone (D : zD) : Option (Int32 × zD) := zlet (gI D 86 7) fun x1 => (fn_X6_stepIsDone_15 zFU x1 (-1 : Int32) (-1 : Int32) (0 : Int32) D)
theorem s_X6_stepIsDone_82 {X : zX} {Sh : zSh} {d : Nat} (hst : (zl X).stackTraces = false) (h0 : zSh0 Sh) (hd : 4 ≤ d)  (v2 : Int32) (v3 : Int32) (D : zD)  : Rn X m_X6_stepIsDone (d + 1) 82 [(0, .ref 85), (2, .int v2), (3, .int v3)] [] (Sh, D) ((oI Sh) (fn_X6_stepIsDone_82  v2 v3 D)) := by
  rw [fn_X6_stepIsDone_82]
  refine r_iload_n (pc := 82) 1 d_X6_stepIsDone_82 rfl rfl ?_
  refine r_iconst (pc := 83) (-1 : Int32) d_X6_stepIsDone_83 rfl ?_
  refine r_icmp_ne (f := (oI Sh)) (pc := 84) 89 d_X6_stepIsDone_84 (by decide) (fun c3 => ?_) (fun c3 => ?_)
  · refine r_aload_n (pc := 89) 0 d_X6_stepIsDone_89 rfl rfl ?_
    refine r_getR (pc := 90) g_X6_9 (K_85 h0) rfl (R_85_0 h0) d_X6_stepIsDone_90 ?_
    refine r_iload_n (pc := 93) 1 d_X6_stepIsDone_93 rfl rfl ?_
    refine r_iload_n (pc := 94) 2 d_X6_stepIsDone_94 rfl rfl ?_
    refine q_cV (f := (oI Sh)) (av := [.ref 86, .int v2, .int v3]) (st := []) (z_runV ck_X10_flip rfl ml_X6_58 ci_X10_flip cv_X10_flip (K_86 h0) (ci := 10) rfl rfl (Nat.le_of_ble_eq_true rfl) d_X6_stepIsDone_95) (s_X10_flip hst h0 (by omega) (I_86)) kp_I (fun D4 _ => ?_)
    refine r_iconst (pc := 98) (1 : Int32) d_X6_stepIsDone_98 rfl ?_
    exact r_zret (pc := 99) rfl (by decide) d_X6_stepIsDone_99
  · refine r_iconst (pc := 87) (0 : Int32) d_X6_stepIsDone_87 rfl ?_
    exact r_zret (pc := 88) rfl (by decide) d_X6_stepIsDone_88
theorem s_X6_stepIsDone_30 {X : zX} {Sh : zSh} {d : Nat} (hst : (zl X).stackTraces = false) (h0 : zSh0 Sh) (hd : 4 ≤ d) (k15 : Int32 → Int32 → Int32 → Int32 → zD → Option (Int32 × zD)) (hk15 : ∀ (v1 : Int32) (v2 : Int32) (v3 : Int32) (v4 : Int32) (D : zD) , Rn X m_X6_stepIsDone (d + 1) 15 [(0, .ref 85), (1, .int v1), (2, .int v2), (3, .int v3), (4, .int v4)] [] (Sh, D) ((oI Sh) (k15 v1 v2 v3 v4 D))) : ∀ (n : Nat) (v1 : Int32) (v2 : Int32) (v3 : Int32) (v4 : Int32) (v5 : Int32) (D : zD) , Rn X m_X6_stepIsDone (d + 1) 30 [(0, .ref 85), (1, .int v1), (2, .int v2), (3, .int v3), (4, .int v4), (5, .int v5)] [] (Sh, D) ((oI Sh) (fn_X6_stepIsDone_30 k15 n v1 v2 v3 v4 v5 D)) := by
  intro n
  induction n with
  | zero => intro v1 v2 v3 v4 v5 D; exact Rn_none rfl
  | succ n hk30 =>
    intro v1 v2 v3 v4 v5 D
    rw [fn_X6_stepIsDone_30]
    refine r_iload (pc := 30) 5 d_X6_stepIsDone_30 rfl ?_
    refine r_aload_n (pc := 32) 0 d_X6_stepIsDone_32 rfl rfl ?_
    refine r_getR (pc := 33) g_X6_9 (K_85 h0) rfl (R_85_0 h0) d_X6_stepIsDone_33 ?_
    refine q_gIn (pc := 36) g_X6_48 (K_86 h0) rfl d_X6_stepIsDone_36 ?_
    refine r_icmp_ge (f := (oI Sh)) (pc := 39) 76 d_X6_stepIsDone_39 (by decide) (fun c5 => ?_) (fun c5 => ?_)
    · refine r_iinc (pc := 76) ((v4 + (1 : Int32))) 4 (ls' := [(4, .int (v4 + (1 : Int32))), (0, .ref 85), (1, .int v1), (2, .int v2), (3, .int v3), (5, .int v5)]) d_X6_stepIsDone_76 rfl rfl (Nat.le_of_ble_eq_true rfl) rfl ?_
      refine r_goto (pc := 79) 15 d_X6_stepIsDone_79 (by decide) ?_
      refine r_pick [1, 2, 3, 4, 0] (ls' := [(0, .ref 85), (1, .int v1), (2, .int v2), (3, .int v3), (4, .int (v4 + (1 : Int32)))]) rfl ?_
      exact hk15 v1 v2 v3 (v4 + (1 : Int32)) D 
    · refine r_aload_n (pc := 42) 0 d_X6_stepIsDone_42 rfl rfl ?_
      refine r_getR (pc := 43) g_X6_9 (K_85 h0) rfl (R_85_0 h0) d_X6_stepIsDone_43 ?_
      refine r_iload (pc := 46) 4 d_X6_stepIsDone_46 rfl ?_
      refine r_iload (pc := 48) 5 d_X6_stepIsDone_48 rfl ?_
      refine q_cP (f := (oI Sh)) (av := [.ref 86, .int v4, .int v5]) (st := []) (z_runV ck_X10_pairsWith rfl ml_X6_70 ci_X10_pairsWith cv_X10_pairsWith (K_86 h0) (ci := 10) rfl rfl (Nat.le_of_ble_eq_true rfl) d_X6_stepIsDone_50) (s_X10_pairsWith hst h0 (by omega) (I_86)) kp_I (fun x6 _ => ?_)
      refine r_istore (pc := 53) (ls' := [(6, .int x6), (0, .ref 85), (1, .int v1), (2, .int v2), (3, .int v3), (4, .int v4), (5, .int v5)]) d_X6_stepIsDone_53 (Nat.le_of_ble_eq_true rfl) rfl ?_
      refine r_iload (pc := 55) 0 d_X6_stepIsDone_55 rfl ?_
      refine r_iload_n (pc := 57) 2 d_X6_stepIsDone_57 rfl rfl ?_
      refine r_icmp_ge (f := (oI Sh)) (pc := 58) 70 d_X6_stepIsDone_58 (by decide) (fun c7 => ?_) (fun c7 => ?_)
      · refine r_iinc (pc := 70) ((v5 + (1 : Int32))) 6 (ls' := [(5, .int (v5 + (1 : Int32))), (6, .int x6), (0, .ref 85), (1, .int v1), (2, .int v2), (3, .int v3), (4, .int v4)]) d_X6_stepIsDone_70 rfl rfl (Nat.le_of_ble_eq_true rfl) rfl ?_
        refine r_goto (pc := 73) 30 d_X6_stepIsDone_73 (by decide) ?_
        refine r_pick [2, 3, 4, 5, 6, 0] (ls' := [(0, .ref 85), (1, .int v1), (2, .int v2), (3, .int v3), (4, .int v4), (5, .int (v5 + (1 : Int32)))]) rfl ?_
        exact hk30 v1 v2 v3 v4 (v5 + (1 : Int32)) D 
      · refine r_iload (pc := 61) 0 d_X6_stepIsDone_61 rfl ?_
        refine r_istore_n (pc := 63) (ls' := [(1, .int x6), (6, .int x6), (0, .ref 85), (2, .int v2), (3, .int v3), (4, .int v4), (5, .int v5)]) d_X6_stepIsDone_63 rfl (Nat.le_of_ble_eq_true rfl) rfl ?_
        refine r_iload (pc := 64) 5 d_X6_stepIsDone_64 rfl ?_
        refine r_istore_n (pc := 66) (ls' := [(2, .int v4), (1, .int x6), (6, .int x6), (0, .ref 85), (3, .int v3), (4, .int v4), (5, .int v5)]) d_X6_stepIsDone_66 rfl (Nat.le_of_ble_eq_true rfl) rfl ?_
        refine r_iload (pc := 67) 6 d_X6_stepIsDone_67 rfl ?_
        refine r_istore_n (pc := 69) (ls' := [(3, .int v5), (2, .int v4), (1, .int x6), (6, .int x6), (0, .ref 85), (4, .int v4), (5, .int v5)]) d_X6_stepIsDone_69 rfl (Nat.le_of_ble_eq_true rfl) rfl ?_
        refine r_iinc (pc := 70) ((v5 + (1 : Int32))) 6 (ls' := [(5, .int (v5 + (1 : Int32))), (3, .int v5), (2, .int v4), (1, .int x6), (6, .int x6), (0, .ref 85), (4, .int v4)]) d_X6_stepIsDone_70 rfl rfl (Nat.le_of_ble_eq_true rfl) rfl ?_
        refine r_goto (pc := 73) 30 d_X6_stepIsDone_73 (by decide) ?_
        refine r_pick [5, 3, 2, 1, 6, 0] (ls' := [(0, .ref 85), (1, .int x6), (2, .int v4), (3, .int v5), (4, .int v4), (5, .int (v5 + (1 : Int32)))]) rfl ?_
        exact hk30 x6 v4 v5 v4 (v5 + (1 : Int32)) D 
theorem s_X6_stepIsDone_15 {X : zX} {Sh : zSh} {d : Nat} (hst : (zl X).stackTraces = false) (h0 : zSh0 Sh) (hd : 4 ≤ d)  : ∀ (n : Nat) (v1 : Int32) (v2 : Int32) (v3 : Int32) (v4 : Int32) (D : zD) , Rn X m_X6_stepIsDone (d + 1) 15 [(0, .ref 85), (1, .int v1), (2, .int v2), (3, .int v3), (4, .int v4)] [] (Sh, D) ((oI Sh) (fn_X6_stepIsDone_15  n v1 v2 v3 v4 D)) := by
  intro n
  induction n with
  | zero => intro v1 v2 v3 v4 D; exact Rn_none rfl
  | succ n hk15 =>
    intro v1 v2 v3 v4 D
    rw [fn_X6_stepIsDone_15]
    refine r_iload (pc := 15) 4 d_X6_stepIsDone_15 rfl ?_
    refine r_aload_n (pc := 17) 0 d_X6_stepIsDone_17 rfl rfl ?_
    refine r_getR (pc := 18) g_X6_9 (K_85 h0) rfl (R_85_0 h0) d_X6_stepIsDone_18 ?_
    refine q_gIn (pc := 21) g_X6_38 (K_86 h0) rfl d_X6_stepIsDone_21 ?_
    refine r_icmp_ge (f := (oI Sh)) (pc := 24) 82 d_X6_stepIsDone_24 (by decide) (fun c2 => ?_) (fun c2 => ?_)
    · refine r_pick [0, 2, 3] (ls' := [(0, .ref 85), (2, .int v2), (3, .int v3)]) rfl ?_
      exact s_X6_stepIsDone_82 hst h0 hd v2 v3 D
    · refine r_iconst (pc := 27) (0 : Int32) d_X6_stepIsDone_27 rfl ?_
      refine r_istore (pc := 28) (ls' := [(5, .int (0 : Int32)), (0, .ref 85), (1, .int v1), (2, .int v2), (3, .int v3), (4, .int v4)]) d_X6_stepIsDone_28 (Nat.le_of_ble_eq_true rfl) rfl ?_
      refine r_pick [1, 2, 3, 4, 5, 0] (ls' := [(0, .ref 85), (1, .int v1), (2, .int v2), (3, .int v3), (4, .int v4), (5, .int (0 : Int32))]) rfl ?_
      exact s_X6_stepIsDone_30 hst h0 hd (fn_X6_stepIsDone_15  n) hk15 zFU  v1 v2 v3 v4 (0 : Int32) D
theorem s_X6_stepIsDone {X : zX} {Sh : zSh} {d : Nat} (hst : (zl X).stackTraces = false) (h0 : zSh0 Sh) (hd : 5 ≤ d)  {D : zD} : Sd X m_X6_stepIsDone d [.ref 85] (Sh, D) ((oI Sh) (fn_X6_stepIsDone D)) := by
  obtain ⟨d, rfl⟩ : ∃ e, d = e + 1 := ⟨d - 1, by omega⟩
  replace hd : 4 ≤ d := by omega
  refine z_body ck_X6_stepIsDone rfl (Nat.le_of_ble_eq_true rfl) rfl hst ?_
  rw [fn_X6_stepIsDone]
  show Rn X m_X6_stepIsDone (d + 1) 0 [(0, .ref 85)] [] (Sh, D) _
  refine r_aload_n (pc := 0) 0 d_X6_stepIsDone_0 rfl rfl ?_
  refine r_getR (pc := 1) g_X6_9 (K_85 h0) rfl (R_85_0 h0) d_X6_stepIsDone_1 ?_
  refine q_gIn (pc := 4) g_X6_25 (K_86 h0) rfl d_X6_stepIsDone_4 ?_
  refine r_leti (f := (oI Sh)) (fun x1 => ?_)
  refine r_istore_n (pc := 7) (ls' := [(1, .int x1), (0, .ref 85)]) d_X6_stepIsDone_7 rfl (Nat.le_of_ble_eq_true rfl) rfl ?_
  refine r_iconst (pc := 8) (-1 : Int32) d_X6_stepIsDone_8 rfl ?_
  refine r_istore_n (pc := 9) (ls' := [(2, .int (-1 : Int32)), (1, .int x1), (0, .ref 85)]) d_X6_stepIsDone_9 rfl (Nat.le_of_ble_eq_true rfl) rfl ?_
  refine r_iconst (pc := 10) (-1 : Int32) d_X6_stepIsDone_10 rfl ?_
  refine r_istore_n (pc := 11) (ls' := [(3, .int (-1 : Int32)), (2, .int (-1 : Int32)), (1, .int x1), (0, .ref 85)]) d_X6_stepIsDone_11 rfl (Nat.le_of_ble_eq_true rfl) rfl ?_
  refine r_iconst (pc := 12) (0 : Int32) d_X6_stepIsDone_12 rfl ?_
  refine r_istore (pc := 13) (ls' := [(4, .int (0 : Int32)), (3, .int (-1 : Int32)), (2, .int (-1 : Int32)), (1, .int x1), (0, .ref 85)]) d_X6_stepIsDone_13 (Nat.le_of_ble_eq_true rfl) rfl ?_
  refine r_pick [4, 3, 2, 1, 0] (ls' := [(0, .ref 85), (1, .int x1), (2, .int (-1 : Int32)), (3, .int (-1 : Int32)), (4, .int (0 : Int32))]) rfl ?_
  exact s_X6_stepIsDone_15 hst h0 hd zFU  x1 (-1 : Int32) (-1 : Int32) (0 : Int32) D
/-! CoveredSigns$Repair.walk -/
theorem d_X6_walk_0 : decode (yB m_X6_walk) 0 = .ok (.aload_n 0, 1) := by decide +kernel
theorem d_X6_walk_1 : decode (yB m_X6_walk) 1 = .ok (.getfield 9, 3) := by decide +kernel
theorem d_X6_walk_4 : decode (yB m_X6_walk) 4 = .ok (.ifnonnull 5, 3) := by decide +kernel
theorem d_X6_walk_7 : decode (yB m_X6_walk) 7 = .ok (.iconst 0, 1) := by decide +kernel
theorem d_X6_walk_8 : decode (yB m_X6_walk) 8 = .ok (.ireturn, 1) := by decide +kernel
theorem d_X6_walk_9 : decode (yB m_X6_walk) 9 = .ok (.aload_n 0, 1) := by decide +kernel
theorem d_X6_walk_10 : decode (yB m_X6_walk) 10 = .ok (.getfield 9, 3) := by decide +kernel
theorem d_X6_walk_13 : decode (yB m_X6_walk) 13 = .ok (.aload_n 1, 1) := by decide +kernel
theorem d_X6_walk_14 : decode (yB m_X6_walk) 14 = .ok (.invokevirtual 55, 3) := by decide +kernel
theorem d_X6_walk_17 : decode (yB m_X6_walk) 17 = .ok (.iconst 0, 1) := by decide +kernel
theorem d_X6_walk_18 : decode (yB m_X6_walk) 18 = .ok (.istore_n 2, 1) := by decide +kernel
theorem d_X6_walk_19 : decode (yB m_X6_walk) 19 = .ok (.iload_n 2, 1) := by decide +kernel
theorem d_X6_walk_20 : decode (yB m_X6_walk) 20 = .ok (.bipush 30, 2) := by decide +kernel
theorem d_X6_walk_22 : decode (yB m_X6_walk) 22 = .ok (.if_icmp .ge 26, 3) := by decide +kernel
theorem d_X6_walk_25 : decode (yB m_X6_walk) 25 = .ok (.aload_n 0, 1) := by decide +kernel
theorem d_X6_walk_26 : decode (yB m_X6_walk) 26 = .ok (.getfield 9, 3) := by decide +kernel
theorem d_X6_walk_29 : decode (yB m_X6_walk) 29 = .ok (.getfield 25, 3) := by decide +kernel
theorem d_X6_walk_32 : decode (yB m_X6_walk) 32 = .ok (.ifCond .le 16, 3) := by decide +kernel
theorem d_X6_walk_35 : decode (yB m_X6_walk) 35 = .ok (.aload_n 0, 1) := by decide +kernel
theorem d_X6_walk_36 : decode (yB m_X6_walk) 36 = .ok (.invokevirtual 66, 3) := by decide +kernel
theorem d_X6_walk_39 : decode (yB m_X6_walk) 39 = .ok (.ifCond .eq 9, 3) := by decide +kernel
theorem d_X6_walk_42 : decode (yB m_X6_walk) 42 = .ok (.iinc 2 1, 3) := by decide +kernel
theorem d_X6_walk_45 : decode (yB m_X6_walk) 45 = .ok (.goto (-26), 3) := by decide +kernel
theorem d_X6_walk_48 : decode (yB m_X6_walk) 48 = .ok (.iload_n 2, 1) := by decide +kernel
theorem d_X6_walk_49 : decode (yB m_X6_walk) 49 = .ok (.ireturn, 1) := by decide +kernel
def fn_X6_walk_19 (a1 : Nat) : Nat → Int32 → zD → Option (Int32 × zD)
  | 0, _, _ => none
  | n + 1, v2, D => (if (30 : Int32) ≤ v2 then ((some (v2, D))) else ((if (gI D 86 7) ≤ 0 then ((some (v2, D))) else ((fn_X6_stepIsDone D).bind fun q4 => (if q4.1 = 0 then ((some (v2, q4.2))) else (((fn_X6_walk_19 a1 n) (v2 + (1 : Int32)) q4.2)))))))
def fn_X6_walk (a1 : Nat) (D : zD) : Option (Int32 × zD) := (fn_X10_copyFrom 86 a1 D).bind fun D1 => (fn_X6_walk_19 a1 zFU (0 : Int32) D1)
theorem s_X6_walk_19 {X : zX} {Sh : zSh} {d : Nat} (hst : (zl X).stackTraces = false) (h0 : zSh0 Sh) (hd : 5 ≤ d) {a1 : Nat} (h_a1 : a1 ∈ zI_10) : ∀ (n : Nat) (v2 : Int32) (D : zD) , Rn X m_X6_walk (d + 1) 19 [(0, .ref 85), (2, .int v2)] [] (Sh, D) ((oI Sh) (fn_X6_walk_19 a1 n v2 D)) := by
  intro n
  induction n with
  | zero => intro v2 D; exact Rn_none rfl
  | succ n hk19 =>
    intro v2 D
    rw [fn_X6_walk_19]
    refine r_iload_n (pc := 19) 1 d_X6_walk_19 rfl rfl ?_
    refine r_bipush (pc := 20) (30 : Int32) d_X6_walk_20 rfl ?_
    refine r_icmp_ge (f := (oI Sh)) (pc := 22) 48 d_X6_walk_22 (by decide) (fun c2 => ?_) (fun c2 => ?_)
    · refine r_iload_n (pc := 48) 1 d_X6_walk_48 rfl rfl ?_
      exact r_iret (pc := 49) rfl d_X6_walk_49
    · refine r_aload_n (pc := 25) 0 d_X6_walk_25 rfl rfl ?_
      refine r_getR (pc := 26) g_X6_9 (K_85 h0) rfl (R_85_0 h0) d_X6_walk_26 ?_
      refine q_gIn (pc := 29) g_X6_25 (K_86 h0) rfl d_X6_walk_29 ?_
      refine r_if_le (f := (oI Sh)) (pc := 32) 48 d_X6_walk_32 (by decide) (fun c3 => ?_) (fun c3 => ?_)
      · refine r_iload_n (pc := 48) 1 d_X6_walk_48 rfl rfl ?_
        exact r_iret (pc := 49) rfl d_X6_walk_49
      · refine r_aload_n (pc := 35) 0 d_X6_walk_35 rfl rfl ?_
        refine q_cI (f := (oI Sh)) (av := [.ref 85]) (st := []) (z_runV ck_X6_stepIsDone rfl ml_X6_66 ci_X6_stepIsDone cv_X6_stepIsDone (K_85 h0) (ci := 6) rfl rfl (Nat.le_of_ble_eq_true rfl) d_X6_walk_36) (s_X6_stepIsDone hst h0 (by omega)) kp_I (fun q4 _ => ?_)
        refine r_if_eq (f := (oI Sh)) (pc := 39) 48 d_X6_walk_39 (by decide) (fun c5 => ?_) (fun c5 => ?_)
        · refine r_iload_n (pc := 48) 1 d_X6_walk_48 rfl rfl ?_
          exact r_iret (pc := 49) rfl d_X6_walk_49
        · refine r_iinc (pc := 42) ((v2 + (1 : Int32))) 1 (ls' := [(2, .int (v2 + (1 : Int32))), (0, .ref 85)]) d_X6_walk_42 rfl rfl (Nat.le_of_ble_eq_true rfl) rfl ?_
          refine r_goto (pc := 45) 19 d_X6_walk_45 (by decide) ?_
          refine r_pick [1, 0] (ls' := [(0, .ref 85), (2, .int (v2 + (1 : Int32)))]) rfl ?_
          exact hk19 (v2 + (1 : Int32)) q4.2 
theorem s_X6_walk {X : zX} {Sh : zSh} {d : Nat} (hst : (zl X).stackTraces = false) (h0 : zSh0 Sh) (hd : 6 ≤ d) {a1 : Nat} (h_a1 : a1 ∈ zI_10) {D : zD} : Sd X m_X6_walk d [.ref 85, .ref a1] (Sh, D) ((oI Sh) (fn_X6_walk a1 D)) := by
  obtain ⟨d, rfl⟩ : ∃ e, d = e + 1 := ⟨d - 1, by omega⟩
  replace hd : 5 ≤ d := by omega
  refine z_body ck_X6_walk rfl (Nat.le_of_ble_eq_true rfl) rfl hst ?_
  rw [fn_X6_walk]
  show Rn X m_X6_walk (d + 1) 0 [(0, .ref 85), (1, .ref a1)] [] (Sh, D) _
  refine r_aload_n (pc := 0) 0 d_X6_walk_0 rfl rfl ?_
  refine r_getR (pc := 1) g_X6_9 (K_85 h0) rfl (R_85_0 h0) d_X6_walk_1 ?_
  refine r_nonnull (pc := 4) 9 d_X6_walk_4 (by decide) ?_
  refine r_aload_n (pc := 9) 0 d_X6_walk_9 rfl rfl ?_
  refine r_getR (pc := 10) g_X6_9 (K_85 h0) rfl (R_85_0 h0) d_X6_walk_10 ?_
  refine r_aload_n (pc := 13) 1 d_X6_walk_13 rfl rfl ?_
  refine q_cV (f := (oI Sh)) (av := [.ref 86, .ref a1]) (st := []) (z_runV ck_X10_copyFrom rfl ml_X6_55 ci_X10_copyFrom cv_X10_copyFrom (K_86 h0) (ci := 10) rfl rfl (Nat.le_of_ble_eq_true rfl) d_X6_walk_14) (s_X10_copyFrom hst h0 (by omega) (I_86) h_a1) kp_I (fun D1 _ => ?_)
  refine r_iconst (pc := 17) (0 : Int32) d_X6_walk_17 rfl ?_
  refine r_istore_n (pc := 18) (ls' := [(2, .int (0 : Int32)), (0, .ref 85), (1, .ref a1)]) d_X6_walk_18 rfl (Nat.le_of_ble_eq_true rfl) rfl ?_
  refine r_pick [1, 0] (ls' := [(0, .ref 85), (2, .int (0 : Int32))]) rfl ?_
  exact s_X6_walk_19 hst h0 hd h_a1 zFU  (0 : Int32) D1
/-! CoveredSigns$Repair.pairsLeft -/
theorem d_X6_pairsLeft_0 : decode (yB m_X6_pairsLeft) 0 = .ok (.aload_n 0, 1) := by decide +kernel
theorem d_X6_pairsLeft_1 : decode (yB m_X6_pairsLeft) 1 = .ok (.getfield 9, 3) := by decide +kernel
theorem d_X6_pairsLeft_4 : decode (yB m_X6_pairsLeft) 4 = .ok (.ifnonnull 7, 3) := by decide +kernel
theorem d_X6_pairsLeft_7 : decode (yB m_X6_pairsLeft) 7 = .ok (.iconst 0, 1) := by decide +kernel
theorem d_X6_pairsLeft_8 : decode (yB m_X6_pairsLeft) 8 = .ok (.goto 10, 3) := by decide +kernel
theorem d_X6_pairsLeft_11 : decode (yB m_X6_pairsLeft) 11 = .ok (.aload_n 0, 1) := by decide +kernel
theorem d_X6_pairsLeft_12 : decode (yB m_X6_pairsLeft) 12 = .ok (.getfield 9, 3) := by decide +kernel
theorem d_X6_pairsLeft_15 : decode (yB m_X6_pairsLeft) 15 = .ok (.getfield 25, 3) := by decide +kernel
theorem d_X6_pairsLeft_18 : decode (yB m_X6_pairsLeft) 18 = .ok (.ireturn, 1) := by decide +kernel
def fn_X6_pairsLeft (D : zD) : Option Int32 := (some (gI D 86 7))
theorem s_X6_pairsLeft {X : zX} {Sh : zSh} {d : Nat} (hst : (zl X).stackTraces = false) (h0 : zSh0 Sh) (hd : 1 ≤ d)  {D : zD} : Sd X m_X6_pairsLeft d [.ref 85] (Sh, D) ((oP Sh D) (fn_X6_pairsLeft D)) := by
  obtain ⟨d, rfl⟩ : ∃ e, d = e + 1 := ⟨d - 1, by omega⟩
  replace hd : 0 ≤ d := by omega
  refine z_body ck_X6_pairsLeft rfl (Nat.le_of_ble_eq_true rfl) rfl hst ?_
  rw [fn_X6_pairsLeft]
  show Rn X m_X6_pairsLeft (d + 1) 0 [(0, .ref 85)] [] (Sh, D) _
  refine r_aload_n (pc := 0) 0 d_X6_pairsLeft_0 rfl rfl ?_
  refine r_getR (pc := 1) g_X6_9 (K_85 h0) rfl (R_85_0 h0) d_X6_pairsLeft_1 ?_
  refine r_nonnull (pc := 4) 11 d_X6_pairsLeft_4 (by decide) ?_
  refine r_aload_n (pc := 11) 0 d_X6_pairsLeft_11 rfl rfl ?_
  refine r_getR (pc := 12) g_X6_9 (K_85 h0) rfl (R_85_0 h0) d_X6_pairsLeft_12 ?_
  refine q_gIn (pc := 15) g_X6_25 (K_86 h0) rfl d_X6_pairsLeft_15 ?_
  exact r_iret (pc := 18) rfl d_X6_pairsLeft_18

