/-! CoveredSignsModel.read -/
theorem d_X12_read_0 : decode (yB m_X12_read) 0 = .ok (.aload_n 0, 1) := by decide +kernel
theorem d_X12_read_1 : decode (yB m_X12_read) 1 = .ok (.iconst 0, 1) := by decide +kernel
theorem d_X12_read_2 : decode (yB m_X12_read) 2 = .ok (.putfield 113, 3) := by decide +kernel
theorem d_X12_read_5 : decode (yB m_X12_read) 5 = .ok (.aload_n 0, 1) := by decide +kernel
theorem d_X12_read_6 : decode (yB m_X12_read) 6 = .ok (.aload_n 0, 1) := by decide +kernel
theorem d_X12_read_7 : decode (yB m_X12_read) 7 = .ok (.iload_n 1, 1) := by decide +kernel
theorem d_X12_read_8 : decode (yB m_X12_read) 8 = .ok (.invokevirtual 299, 3) := by decide +kernel
theorem d_X12_read_11 : decode (yB m_X12_read) 11 = .ok (.ifCond .ne 7, 3) := by decide +kernel
theorem d_X12_read_14 : decode (yB m_X12_read) 14 = .ok (.iconst 1, 1) := by decide +kernel
theorem d_X12_read_15 : decode (yB m_X12_read) 15 = .ok (.goto 4, 3) := by decide +kernel
theorem d_X12_read_18 : decode (yB m_X12_read) 18 = .ok (.iconst 0, 1) := by decide +kernel
theorem d_X12_read_19 : decode (yB m_X12_read) 19 = .ok (.iconst 1, 1) := by decide +kernel
theorem d_X12_read_20 : decode (yB m_X12_read) 20 = .ok (.invokevirtual 214, 3) := by decide +kernel
theorem d_X12_read_23 : decode (yB m_X12_read) 23 = .ok (.ifCond .ne 24, 3) := by decide +kernel
theorem d_X12_read_26 : decode (yB m_X12_read) 26 = .ok (.aload_n 0, 1) := by decide +kernel
theorem d_X12_read_27 : decode (yB m_X12_read) 27 = .ok (.aload_n 0, 1) := by decide +kernel
theorem d_X12_read_28 : decode (yB m_X12_read) 28 = .ok (.iload_n 2, 1) := by decide +kernel
theorem d_X12_read_29 : decode (yB m_X12_read) 29 = .ok (.invokevirtual 320, 3) := by decide +kernel
theorem d_X12_read_32 : decode (yB m_X12_read) 32 = .ok (.ifCond .ne 7, 3) := by decide +kernel
theorem d_X12_read_35 : decode (yB m_X12_read) 35 = .ok (.iconst 1, 1) := by decide +kernel
theorem d_X12_read_36 : decode (yB m_X12_read) 36 = .ok (.goto 4, 3) := by decide +kernel
theorem d_X12_read_39 : decode (yB m_X12_read) 39 = .ok (.iconst 0, 1) := by decide +kernel
theorem d_X12_read_40 : decode (yB m_X12_read) 40 = .ok (.iconst 2, 1) := by decide +kernel
theorem d_X12_read_41 : decode (yB m_X12_read) 41 = .ok (.invokevirtual 214, 3) := by decide +kernel
theorem d_X12_read_44 : decode (yB m_X12_read) 44 = .ok (.ifCond .eq 5, 3) := by decide +kernel
theorem d_X12_read_47 : decode (yB m_X12_read) 47 = .ok (.iconst 0, 1) := by decide +kernel
theorem d_X12_read_48 : decode (yB m_X12_read) 48 = .ok (.ireturn, 1) := by decide +kernel
theorem d_X12_read_49 : decode (yB m_X12_read) 49 = .ok (.aload_n 0, 1) := by decide +kernel
theorem d_X12_read_50 : decode (yB m_X12_read) 50 = .ok (.aload_n 0, 1) := by decide +kernel
theorem d_X12_read_51 : decode (yB m_X12_read) 51 = .ok (.aload_n 0, 1) := by decide +kernel
theorem d_X12_read_52 : decode (yB m_X12_read) 52 = .ok (.getfield 52, 3) := by decide +kernel
theorem d_X12_read_55 : decode (yB m_X12_read) 55 = .ok (.iload_n 1, 1) := by decide +kernel
theorem d_X12_read_56 : decode (yB m_X12_read) 56 = .ok (.iaload, 1) := by decide +kernel
theorem d_X12_read_57 : decode (yB m_X12_read) 57 = .ok (.iload_n 2, 1) := by decide +kernel
theorem d_X12_read_58 : decode (yB m_X12_read) 58 = .ok (.invokevirtual 323, 3) := by decide +kernel
theorem d_X12_read_61 : decode (yB m_X12_read) 61 = .ok (.invokevirtual 326, 3) := by decide +kernel
theorem d_X12_read_64 : decode (yB m_X12_read) 64 = .ok (.ireturn, 1) := by decide +kernel
def fn_X12_read_40 (v1 : Int32) (v2 : Int32) (w1 : Int32) (D : zD) : Option (Int32 × zD) := (fn_X12_bad w1 (2 : Int32) D).bind fun q8 => (if q8.1 = 0 then (zck v1 500 <| (fn_X12_mayBe (gI q8.2 128 v1.toNatClampNeg) v2 q8.2).bind fun x11 => (fn_X12_only x11).bind fun x12 => (some (x12, q8.2))) else ((some ((0 : Int32), q8.2))))
def fn_X12_read_19 (v1 : Int32) (v2 : Int32) (w1 : Int32) (D : zD) : Option (Int32 × zD) := (fn_X12_bad w1 (1 : Int32) D).bind fun q4 => (if q4.1 = 0 then ((fn_X12_isPaint v2 q4.2).bind fun x6 => (if x6 = 0 then ((fn_X12_read_40 v1 v2 (1 : Int32) q4.2)) else ((fn_X12_read_40 v1 v2 (0 : Int32) q4.2)))) else ((some ((0 : Int32), q4.2))))
def fn_X12_read (v1 : Int32) (v2 : Int32) (D : zD) : Option (Int32 × zD) := zlet (sI D 102 0 (0 : Int32)) fun D1 => (fn_X12_isCover v1 D1).bind fun x2 => (if x2 = 0 then ((fn_X12_read_19 v1 v2 (1 : Int32) D1)) else ((fn_X12_read_19 v1 v2 (0 : Int32) D1)))
theorem s_X12_read_40 {X : zX} {Sh : zSh} {d : Nat} (hst : (zl X).stackTraces = false) (h0 : zSh0 Sh) (hd : 3 ≤ d) {v1 : Int32} {v2 : Int32} (w1 : Int32) (D : zD)  : Rn X m_X12_read (d + 1) 40 [(0, .ref 102), (1, .int v1), (2, .int v2)] [.int w1, .ref 102] (Sh, D) ((oI Sh) (fn_X12_read_40 v1 v2 w1 D)) := by
  rw [fn_X12_read_40]
  refine r_iconst (pc := 40) (2 : Int32) d_X12_read_40 rfl ?_
  refine q_cI (f := (oI Sh)) (av := [.ref 102, .int w1, .int (2 : Int32)]) (st := []) (z_runV ck_X12_bad rfl ml_X12_214 ci_X12_bad cv_X12_bad (K_102 h0) (ci := 12) rfl rfl (Nat.le_of_ble_eq_true rfl) d_X12_read_41) (s_X12_bad hst h0 (by omega)) kp_I (fun q8 _ => ?_)
  refine r_if_eq (f := (oI Sh)) (pc := 44) 49 d_X12_read_44 (by decide) (fun c9 => ?_) (fun c9 => ?_)
  · refine r_aload_n (pc := 49) 0 d_X12_read_49 rfl rfl ?_
    refine r_aload_n (pc := 50) 0 d_X12_read_50 rfl rfl ?_
    refine r_aload_n (pc := 51) 0 d_X12_read_51 rfl rfl ?_
    refine r_getR (pc := 52) g_X12_52 (K_102 h0) rfl (R_102_28 h0) d_X12_read_52 ?_
    refine r_iload_n (pc := 55) 1 d_X12_read_55 rfl rfl ?_
    refine r_ck (f := (oI Sh)) rfl (fun hc10 => ?_)
    refine q_iald (pc := 56) (j := v1.toNatClampNeg) (K_128 h0) hc10 rfl d_X12_read_56 ?_
    refine r_iload_n (pc := 57) 2 d_X12_read_57 rfl rfl ?_
    refine q_cP (f := (oI Sh)) (av := [.ref 102, .int (gI q8.2 128 v1.toNatClampNeg), .int v2]) (st := [.ref 102]) (z_runV ck_X12_mayBe rfl ml_X12_323 ci_X12_mayBe cv_X12_mayBe (K_102 h0) (ci := 12) rfl rfl (Nat.le_of_ble_eq_true rfl) d_X12_read_58) (s_X12_mayBe hst h0 (by omega)) kp_I (fun x11 _ => ?_)
    refine q_cP (f := (oI Sh)) (av := [.ref 102, .int x11]) (st := []) (z_runV ck_X12_only rfl ml_X12_326 ci_X12_only cv_X12_only (K_102 h0) (ci := 12) rfl rfl (Nat.le_of_ble_eq_true rfl) d_X12_read_61) (s_X12_only hst h0 (by omega)) kp_I (fun x12 _ => ?_)
    exact r_iret (pc := 64) rfl d_X12_read_64
  · refine r_iconst (pc := 47) (0 : Int32) d_X12_read_47 rfl ?_
    exact r_iret (pc := 48) rfl d_X12_read_48
theorem s_X12_read_19 {X : zX} {Sh : zSh} {d : Nat} (hst : (zl X).stackTraces = false) (h0 : zSh0 Sh) (hd : 3 ≤ d) {v1 : Int32} {v2 : Int32} (w1 : Int32) (D : zD)  : Rn X m_X12_read (d + 1) 19 [(0, .ref 102), (1, .int v1), (2, .int v2)] [.int w1, .ref 102] (Sh, D) ((oI Sh) (fn_X12_read_19 v1 v2 w1 D)) := by
  rw [fn_X12_read_19]
  refine r_iconst (pc := 19) (1 : Int32) d_X12_read_19 rfl ?_
  refine q_cI (f := (oI Sh)) (av := [.ref 102, .int w1, .int (1 : Int32)]) (st := []) (z_runV ck_X12_bad rfl ml_X12_214 ci_X12_bad cv_X12_bad (K_102 h0) (ci := 12) rfl rfl (Nat.le_of_ble_eq_true rfl) d_X12_read_20) (s_X12_bad hst h0 (by omega)) kp_I (fun q4 _ => ?_)
  refine r_if_ne (f := (oI Sh)) (pc := 23) 47 d_X12_read_23 (by decide) (fun c5 => ?_) (fun c5 => ?_)
  · refine r_iconst (pc := 47) (0 : Int32) d_X12_read_47 rfl ?_
    exact r_iret (pc := 48) rfl d_X12_read_48
  · refine r_aload_n (pc := 26) 0 d_X12_read_26 rfl rfl ?_
    refine r_aload_n (pc := 27) 0 d_X12_read_27 rfl rfl ?_
    refine r_iload_n (pc := 28) 2 d_X12_read_28 rfl rfl ?_
    refine q_cP (f := (oI Sh)) (av := [.ref 102, .int v2]) (st := [.ref 102]) (z_runV ck_X12_isPaint rfl ml_X12_320 ci_X12_isPaint cv_X12_isPaint (K_102 h0) (ci := 12) rfl rfl (Nat.le_of_ble_eq_true rfl) d_X12_read_29) (s_X12_isPaint hst h0 (by omega)) kp_I (fun x6 _ => ?_)
    refine r_if_ne (f := (oI Sh)) (pc := 32) 39 d_X12_read_32 (by decide) (fun c7 => ?_) (fun c7 => ?_)
    · refine r_iconst (pc := 39) (0 : Int32) d_X12_read_39 rfl ?_
      refine r_pick [0, 1, 2] (ls' := [(0, .ref 102), (1, .int v1), (2, .int v2)]) rfl ?_
      exact s_X12_read_40 hst h0 hd (0 : Int32) q4.2
    · refine r_iconst (pc := 35) (1 : Int32) d_X12_read_35 rfl ?_
      refine r_goto (pc := 36) 40 d_X12_read_36 (by decide) ?_
      refine r_pick [0, 1, 2] (ls' := [(0, .ref 102), (1, .int v1), (2, .int v2)]) rfl ?_
      exact s_X12_read_40 hst h0 hd (1 : Int32) q4.2
theorem s_X12_read {X : zX} {Sh : zSh} {d : Nat} (hst : (zl X).stackTraces = false) (h0 : zSh0 Sh) (hd : 4 ≤ d) {v1 : Int32} {v2 : Int32} {D : zD} : Sd X m_X12_read d [.ref 102, .int v1, .int v2] (Sh, D) ((oI Sh) (fn_X12_read v1 v2 D)) := by
  obtain ⟨d, rfl⟩ : ∃ e, d = e + 1 := ⟨d - 1, by omega⟩
  replace hd : 3 ≤ d := by omega
  refine z_body ck_X12_read rfl (Nat.le_of_ble_eq_true rfl) rfl hst ?_
  rw [fn_X12_read]
  show Rn X m_X12_read (d + 1) 0 [(0, .ref 102), (1, .int v1), (2, .int v2)] [] (Sh, D) _
  refine r_aload_n (pc := 0) 0 d_X12_read_0 rfl rfl ?_
  refine r_iconst (pc := 1) (0 : Int32) d_X12_read_1 rfl ?_
  refine r_putI (pc := 2) p_X12_113 (K_102 h0) rfl (Or.inl rfl) d_X12_read_2 ?_
  refine r_letD (f := (oI Sh)) (fun D1 => ?_)
  refine r_aload_n (pc := 5) 0 d_X12_read_5 rfl rfl ?_
  refine r_aload_n (pc := 6) 0 d_X12_read_6 rfl rfl ?_
  refine r_iload_n (pc := 7) 1 d_X12_read_7 rfl rfl ?_
  refine q_cP (f := (oI Sh)) (av := [.ref 102, .int v1]) (st := [.ref 102]) (z_runV ck_X12_isCover rfl ml_X12_299 ci_X12_isCover cv_X12_isCover (K_102 h0) (ci := 12) rfl rfl (Nat.le_of_ble_eq_true rfl) d_X12_read_8) (s_X12_isCover hst h0 (by omega)) kp_I (fun x2 _ => ?_)
  refine r_if_ne (f := (oI Sh)) (pc := 11) 18 d_X12_read_11 (by decide) (fun c3 => ?_) (fun c3 => ?_)
  · refine r_iconst (pc := 18) (0 : Int32) d_X12_read_18 rfl ?_
    refine r_pick [0, 1, 2] (ls' := [(0, .ref 102), (1, .int v1), (2, .int v2)]) rfl ?_
    exact s_X12_read_19 hst h0 hd (0 : Int32) D1
  · refine r_iconst (pc := 14) (1 : Int32) d_X12_read_14 rfl ?_
    refine r_goto (pc := 15) 19 d_X12_read_15 (by decide) ?_
    refine r_pick [0, 1, 2] (ls' := [(0, .ref 102), (1, .int v1), (2, .int v2)]) rfl ?_
    exact s_X12_read_19 hst h0 hd (1 : Int32) D1
/-! CoveredSignsModel.nearest -/
theorem d_X12_nearest_0 : decode (yB m_X12_nearest) 0 = .ok (.aload_n 0, 1) := by decide +kernel
theorem d_X12_nearest_1 : decode (yB m_X12_nearest) 1 = .ok (.iconst 0, 1) := by decide +kernel
theorem d_X12_nearest_2 : decode (yB m_X12_nearest) 2 = .ok (.putfield 113, 3) := by decide +kernel
theorem d_X12_nearest_5 : decode (yB m_X12_nearest) 5 = .ok (.aload_n 0, 1) := by decide +kernel
theorem d_X12_nearest_6 : decode (yB m_X12_nearest) 6 = .ok (.aload_n 0, 1) := by decide +kernel
theorem d_X12_nearest_7 : decode (yB m_X12_nearest) 7 = .ok (.iload_n 1, 1) := by decide +kernel
theorem d_X12_nearest_8 : decode (yB m_X12_nearest) 8 = .ok (.invokevirtual 299, 3) := by decide +kernel
theorem d_X12_nearest_11 : decode (yB m_X12_nearest) 11 = .ok (.ifCond .ne 7, 3) := by decide +kernel
theorem d_X12_nearest_14 : decode (yB m_X12_nearest) 14 = .ok (.iconst 1, 1) := by decide +kernel
theorem d_X12_nearest_15 : decode (yB m_X12_nearest) 15 = .ok (.goto 4, 3) := by decide +kernel
theorem d_X12_nearest_18 : decode (yB m_X12_nearest) 18 = .ok (.iconst 0, 1) := by decide +kernel
theorem d_X12_nearest_19 : decode (yB m_X12_nearest) 19 = .ok (.iconst 1, 1) := by decide +kernel
theorem d_X12_nearest_20 : decode (yB m_X12_nearest) 20 = .ok (.invokevirtual 214, 3) := by decide +kernel
theorem d_X12_nearest_23 : decode (yB m_X12_nearest) 23 = .ok (.ifCond .ne 24, 3) := by decide +kernel
theorem d_X12_nearest_26 : decode (yB m_X12_nearest) 26 = .ok (.aload_n 0, 1) := by decide +kernel
theorem d_X12_nearest_27 : decode (yB m_X12_nearest) 27 = .ok (.aload_n 0, 1) := by decide +kernel
theorem d_X12_nearest_28 : decode (yB m_X12_nearest) 28 = .ok (.iload_n 2, 1) := by decide +kernel
theorem d_X12_nearest_29 : decode (yB m_X12_nearest) 29 = .ok (.invokevirtual 320, 3) := by decide +kernel
theorem d_X12_nearest_32 : decode (yB m_X12_nearest) 32 = .ok (.ifCond .ne 7, 3) := by decide +kernel
theorem d_X12_nearest_35 : decode (yB m_X12_nearest) 35 = .ok (.iconst 1, 1) := by decide +kernel
theorem d_X12_nearest_36 : decode (yB m_X12_nearest) 36 = .ok (.goto 4, 3) := by decide +kernel
theorem d_X12_nearest_39 : decode (yB m_X12_nearest) 39 = .ok (.iconst 0, 1) := by decide +kernel
theorem d_X12_nearest_40 : decode (yB m_X12_nearest) 40 = .ok (.iconst 2, 1) := by decide +kernel
theorem d_X12_nearest_41 : decode (yB m_X12_nearest) 41 = .ok (.invokevirtual 214, 3) := by decide +kernel
theorem d_X12_nearest_44 : decode (yB m_X12_nearest) 44 = .ok (.ifCond .eq 5, 3) := by decide +kernel
theorem d_X12_nearest_47 : decode (yB m_X12_nearest) 47 = .ok (.iconst 0, 1) := by decide +kernel
theorem d_X12_nearest_48 : decode (yB m_X12_nearest) 48 = .ok (.ireturn, 1) := by decide +kernel
theorem d_X12_nearest_49 : decode (yB m_X12_nearest) 49 = .ok (.iconst (-1), 1) := by decide +kernel
theorem d_X12_nearest_50 : decode (yB m_X12_nearest) 50 = .ok (.istore_n 3, 1) := by decide +kernel
theorem d_X12_nearest_51 : decode (yB m_X12_nearest) 51 = .ok (.iconst 0, 1) := by decide +kernel
theorem d_X12_nearest_52 : decode (yB m_X12_nearest) 52 = .ok (.istore 4, 2) := by decide +kernel
theorem d_X12_nearest_54 : decode (yB m_X12_nearest) 54 = .ok (.iconst 0, 1) := by decide +kernel
theorem d_X12_nearest_55 : decode (yB m_X12_nearest) 55 = .ok (.istore 5, 2) := by decide +kernel
theorem d_X12_nearest_57 : decode (yB m_X12_nearest) 57 = .ok (.iload 5, 2) := by decide +kernel
theorem d_X12_nearest_59 : decode (yB m_X12_nearest) 59 = .ok (.aload_n 0, 1) := by decide +kernel
theorem d_X12_nearest_60 : decode (yB m_X12_nearest) 60 = .ok (.getfield 224, 3) := by decide +kernel
theorem d_X12_nearest_63 : decode (yB m_X12_nearest) 63 = .ok (.if_icmp .ge 54, 3) := by decide +kernel
theorem d_X12_nearest_66 : decode (yB m_X12_nearest) 66 = .ok (.aload_n 0, 1) := by decide +kernel
theorem d_X12_nearest_67 : decode (yB m_X12_nearest) 67 = .ok (.getfield 26, 3) := by decide +kernel
theorem d_X12_nearest_70 : decode (yB m_X12_nearest) 70 = .ok (.iload 5, 2) := by decide +kernel
theorem d_X12_nearest_72 : decode (yB m_X12_nearest) 72 = .ok (.iaload, 1) := by decide +kernel
theorem d_X12_nearest_73 : decode (yB m_X12_nearest) 73 = .ok (.iload_n 2, 1) := by decide +kernel
theorem d_X12_nearest_74 : decode (yB m_X12_nearest) 74 = .ok (.ixor, 1) := by decide +kernel
theorem d_X12_nearest_75 : decode (yB m_X12_nearest) 75 = .ok (.aload_n 0, 1) := by decide +kernel
theorem d_X12_nearest_76 : decode (yB m_X12_nearest) 76 = .ok (.getfield 52, 3) := by decide +kernel
theorem d_X12_nearest_79 : decode (yB m_X12_nearest) 79 = .ok (.iload_n 1, 1) := by decide +kernel
theorem d_X12_nearest_80 : decode (yB m_X12_nearest) 80 = .ok (.iaload, 1) := by decide +kernel
theorem d_X12_nearest_81 : decode (yB m_X12_nearest) 81 = .ok (.iconst (-1), 1) := by decide +kernel
theorem d_X12_nearest_82 : decode (yB m_X12_nearest) 82 = .ok (.ixor, 1) := by decide +kernel
theorem d_X12_nearest_83 : decode (yB m_X12_nearest) 83 = .ok (.iand, 1) := by decide +kernel
theorem d_X12_nearest_84 : decode (yB m_X12_nearest) 84 = .ok (.invokestatic 293, 3) := by decide +kernel
theorem d_X12_nearest_87 : decode (yB m_X12_nearest) 87 = .ok (.istore 6, 2) := by decide +kernel
theorem d_X12_nearest_89 : decode (yB m_X12_nearest) 89 = .ok (.iload_n 3, 1) := by decide +kernel
theorem d_X12_nearest_90 : decode (yB m_X12_nearest) 90 = .ok (.iconst (-1), 1) := by decide +kernel
theorem d_X12_nearest_91 : decode (yB m_X12_nearest) 91 = .ok (.if_icmp .eq 13, 3) := by decide +kernel
theorem d_X12_nearest_94 : decode (yB m_X12_nearest) 94 = .ok (.iload 6, 2) := by decide +kernel
theorem d_X12_nearest_96 : decode (yB m_X12_nearest) 96 = .ok (.iload 4, 2) := by decide +kernel
theorem d_X12_nearest_98 : decode (yB m_X12_nearest) 98 = .ok (.if_icmp .lt 6, 3) := by decide +kernel
theorem d_X12_nearest_101 : decode (yB m_X12_nearest) 101 = .ok (.goto 10, 3) := by decide +kernel
theorem d_X12_nearest_104 : decode (yB m_X12_nearest) 104 = .ok (.iload 5, 2) := by decide +kernel
theorem d_X12_nearest_106 : decode (yB m_X12_nearest) 106 = .ok (.istore_n 3, 1) := by decide +kernel
theorem d_X12_nearest_107 : decode (yB m_X12_nearest) 107 = .ok (.iload 6, 2) := by decide +kernel
theorem d_X12_nearest_109 : decode (yB m_X12_nearest) 109 = .ok (.istore 4, 2) := by decide +kernel
theorem d_X12_nearest_111 : decode (yB m_X12_nearest) 111 = .ok (.iinc 5 1, 3) := by decide +kernel
theorem d_X12_nearest_114 : decode (yB m_X12_nearest) 114 = .ok (.goto (-57), 3) := by decide +kernel
theorem d_X12_nearest_117 : decode (yB m_X12_nearest) 117 = .ok (.iload_n 3, 1) := by decide +kernel
theorem d_X12_nearest_118 : decode (yB m_X12_nearest) 118 = .ok (.ireturn, 1) := by decide +kernel
def fn_X12_nearest_57 (v1 : Int32) (v2 : Int32) : Nat → Int32 → Int32 → Int32 → zD → Option (Int32 × zD)
  | 0, _, _, _, _ => none
  | n + 1, v3, v4, v5, D => (if (gI D 102 16) ≤ v5 then ((some (v3, D))) else (zck v5 12 <| zck v1 500 <| (fn_X12_ones (((gI D 105 v5.toNatClampNeg) ^^^ v2) &&& ((gI D 128 v1.toNatClampNeg) ^^^ (-1 : Int32)))).bind fun x13 => (if v3 = (-1 : Int32) then (((fn_X12_nearest_57 v1 v2 n) v5 x13 (v5 + (1 : Int32)) D)) else ((if x13 < v4 then (((fn_X12_nearest_57 v1 v2 n) v5 x13 (v5 + (1 : Int32)) D)) else (((fn_X12_nearest_57 v1 v2 n) v3 v4 (v5 + (1 : Int32)) D)))))))
def fn_X12_nearest_40 (v1 : Int32) (v2 : Int32) (w1 : Int32) (D : zD) : Option (Int32 × zD) := (fn_X12_bad w1 (2 : Int32) D).bind fun q8 => (if q8.1 = 0 then ((fn_X12_nearest_57 v1 v2 zFU (-1 : Int32) (0 : Int32) (0 : Int32) q8.2)) else ((some ((0 : Int32), q8.2))))
def fn_X12_nearest_19 (v1 : Int32) (v2 : Int32) (w1 : Int32) (D : zD) : Option (Int32 × zD) := (fn_X12_bad w1 (1 : Int32) D).bind fun q4 => (if q4.1 = 0 then ((fn_X12_isPaint v2 q4.2).bind fun x6 => (if x6 = 0 then ((fn_X12_nearest_40 v1 v2 (1 : Int32) q4.2)) else ((fn_X12_nearest_40 v1 v2 (0 : Int32) q4.2)))) else ((some ((0 : Int32), q4.2))))
def fn_X12_nearest (v1 : Int32) (v2 : Int32) (D : zD) : Option (Int32 × zD) := zlet (sI D 102 0 (0 : Int32)) fun D1 => (fn_X12_isCover v1 D1).bind fun x2 => (if x2 = 0 then ((fn_X12_nearest_19 v1 v2 (1 : Int32) D1)) else ((fn_X12_nearest_19 v1 v2 (0 : Int32) D1)))
theorem s_X12_nearest_57 {X : zX} {Sh : zSh} {d : Nat} (hst : (zl X).stackTraces = false) (h0 : zSh0 Sh) (hd : 3 ≤ d) {v1 : Int32} {v2 : Int32} : ∀ (n : Nat) (v3 : Int32) (v4 : Int32) (v5 : Int32) (D : zD) , Rn X m_X12_nearest (d + 1) 57 [(0, .ref 102), (1, .int v1), (2, .int v2), (3, .int v3), (4, .int v4), (5, .int v5)] [] (Sh, D) ((oI Sh) (fn_X12_nearest_57 v1 v2 n v3 v4 v5 D)) := by
  intro n
  induction n with
  | zero => intro v3 v4 v5 D; exact Rn_none rfl
  | succ n hk57 =>
    intro v3 v4 v5 D
    rw [fn_X12_nearest_57]
    refine r_iload (pc := 57) 5 d_X12_nearest_57 rfl ?_
    refine r_aload_n (pc := 59) 0 d_X12_nearest_59 rfl rfl ?_
    refine q_gI (pc := 60) g_X12_224 (K_102 h0) rfl d_X12_nearest_60 ?_
    refine r_icmp_ge (f := (oI Sh)) (pc := 63) 117 d_X12_nearest_63 (by decide) (fun c10 => ?_) (fun c10 => ?_)
    · refine r_iload_n (pc := 117) 3 d_X12_nearest_117 rfl rfl ?_
      exact r_iret (pc := 118) rfl d_X12_nearest_118
    · refine r_aload_n (pc := 66) 0 d_X12_nearest_66 rfl rfl ?_
      refine r_getR (pc := 67) g_X12_26 (K_102 h0) rfl (R_102_19 h0) d_X12_nearest_67 ?_
      refine r_iload (pc := 70) 5 d_X12_nearest_70 rfl ?_
      refine r_ck (f := (oI Sh)) rfl (fun hc11 => ?_)
      refine q_iald (pc := 72) (j := v5.toNatClampNeg) (K_105 h0) hc11 rfl d_X12_nearest_72 ?_
      refine r_iload_n (pc := 73) 2 d_X12_nearest_73 rfl rfl ?_
      refine r_ixor (pc := 74) d_X12_nearest_74 ?_
      refine r_aload_n (pc := 75) 0 d_X12_nearest_75 rfl rfl ?_
      refine r_getR (pc := 76) g_X12_52 (K_102 h0) rfl (R_102_28 h0) d_X12_nearest_76 ?_
      refine r_iload_n (pc := 79) 1 d_X12_nearest_79 rfl rfl ?_
      refine r_ck (f := (oI Sh)) rfl (fun hc12 => ?_)
      refine q_iald (pc := 80) (j := v1.toNatClampNeg) (K_128 h0) hc12 rfl d_X12_nearest_80 ?_
      refine r_iconst (pc := 81) (-1 : Int32) d_X12_nearest_81 rfl ?_
      refine r_ixor (pc := 82) d_X12_nearest_82 ?_
      refine r_iand (pc := 83) d_X12_nearest_83 ?_
      refine q_cP (f := (oI Sh)) (av := [.int (((gI D 105 v5.toNatClampNeg) ^^^ v2) &&& ((gI D 128 v1.toNatClampNeg) ^^^ (-1 : Int32)))]) (st := []) (z_runS ck_X12_ones rfl ml_X12_293 cs_X12_ones rfl (Nat.le_of_ble_eq_true rfl) d_X12_nearest_84) (s_X12_ones hst h0 (by omega)) kp_I (fun x13 _ => ?_)
      refine r_istore (pc := 87) (ls' := [(6, .int x13), (0, .ref 102), (1, .int v1), (2, .int v2), (3, .int v3), (4, .int v4), (5, .int v5)]) d_X12_nearest_87 (Nat.le_of_ble_eq_true rfl) rfl ?_
      refine r_iload_n (pc := 89) 4 d_X12_nearest_89 rfl rfl ?_
      refine r_iconst (pc := 90) (-1 : Int32) d_X12_nearest_90 rfl ?_
      refine r_icmp_eq (f := (oI Sh)) (pc := 91) 104 d_X12_nearest_91 (by decide) (fun c14 => ?_) (fun c14 => ?_)
      · refine r_iload (pc := 104) 6 d_X12_nearest_104 rfl ?_
        refine r_istore_n (pc := 106) (ls' := [(3, .int v5), (6, .int x13), (0, .ref 102), (1, .int v1), (2, .int v2), (4, .int v4), (5, .int v5)]) d_X12_nearest_106 rfl (Nat.le_of_ble_eq_true rfl) rfl ?_
        refine r_iload (pc := 107) 1 d_X12_nearest_107 rfl ?_
        refine r_istore (pc := 109) (ls' := [(4, .int x13), (3, .int v5), (6, .int x13), (0, .ref 102), (1, .int v1), (2, .int v2), (5, .int v5)]) d_X12_nearest_109 (Nat.le_of_ble_eq_true rfl) rfl ?_
        refine r_iinc (pc := 111) ((v5 + (1 : Int32))) 6 (ls' := [(5, .int (v5 + (1 : Int32))), (4, .int x13), (3, .int v5), (6, .int x13), (0, .ref 102), (1, .int v1), (2, .int v2)]) d_X12_nearest_111 rfl rfl (Nat.le_of_ble_eq_true rfl) rfl ?_
        refine r_goto (pc := 114) 57 d_X12_nearest_114 (by decide) ?_
        refine r_pick [4, 5, 6, 2, 1, 0] (ls' := [(0, .ref 102), (1, .int v1), (2, .int v2), (3, .int v5), (4, .int x13), (5, .int (v5 + (1 : Int32)))]) rfl ?_
        exact hk57 v5 x13 (v5 + (1 : Int32)) D 
      · refine r_iload (pc := 94) 0 d_X12_nearest_94 rfl ?_
        refine r_iload (pc := 96) 5 d_X12_nearest_96 rfl ?_
        refine r_icmp_lt (f := (oI Sh)) (pc := 98) 104 d_X12_nearest_98 (by decide) (fun c15 => ?_) (fun c15 => ?_)
        · refine r_iload (pc := 104) 6 d_X12_nearest_104 rfl ?_
          refine r_istore_n (pc := 106) (ls' := [(3, .int v5), (6, .int x13), (0, .ref 102), (1, .int v1), (2, .int v2), (4, .int v4), (5, .int v5)]) d_X12_nearest_106 rfl (Nat.le_of_ble_eq_true rfl) rfl ?_
          refine r_iload (pc := 107) 1 d_X12_nearest_107 rfl ?_
          refine r_istore (pc := 109) (ls' := [(4, .int x13), (3, .int v5), (6, .int x13), (0, .ref 102), (1, .int v1), (2, .int v2), (5, .int v5)]) d_X12_nearest_109 (Nat.le_of_ble_eq_true rfl) rfl ?_
          refine r_iinc (pc := 111) ((v5 + (1 : Int32))) 6 (ls' := [(5, .int (v5 + (1 : Int32))), (4, .int x13), (3, .int v5), (6, .int x13), (0, .ref 102), (1, .int v1), (2, .int v2)]) d_X12_nearest_111 rfl rfl (Nat.le_of_ble_eq_true rfl) rfl ?_
          refine r_goto (pc := 114) 57 d_X12_nearest_114 (by decide) ?_
          refine r_pick [4, 5, 6, 2, 1, 0] (ls' := [(0, .ref 102), (1, .int v1), (2, .int v2), (3, .int v5), (4, .int x13), (5, .int (v5 + (1 : Int32)))]) rfl ?_
          exact hk57 v5 x13 (v5 + (1 : Int32)) D 
        · refine r_goto (pc := 101) 111 d_X12_nearest_101 (by decide) ?_
          refine r_iinc (pc := 111) ((v5 + (1 : Int32))) 6 (ls' := [(5, .int (v5 + (1 : Int32))), (6, .int x13), (0, .ref 102), (1, .int v1), (2, .int v2), (3, .int v3), (4, .int v4)]) d_X12_nearest_111 rfl rfl (Nat.le_of_ble_eq_true rfl) rfl ?_
          refine r_goto (pc := 114) 57 d_X12_nearest_114 (by decide) ?_
          refine r_pick [2, 3, 4, 5, 6, 0] (ls' := [(0, .ref 102), (1, .int v1), (2, .int v2), (3, .int v3), (4, .int v4), (5, .int (v5 + (1 : Int32)))]) rfl ?_
          exact hk57 v3 v4 (v5 + (1 : Int32)) D 
theorem s_X12_nearest_40 {X : zX} {Sh : zSh} {d : Nat} (hst : (zl X).stackTraces = false) (h0 : zSh0 Sh) (hd : 3 ≤ d) {v1 : Int32} {v2 : Int32} (w1 : Int32) (D : zD)  : Rn X m_X12_nearest (d + 1) 40 [(0, .ref 102), (1, .int v1), (2, .int v2)] [.int w1, .ref 102] (Sh, D) ((oI Sh) (fn_X12_nearest_40 v1 v2 w1 D)) := by
  rw [fn_X12_nearest_40]
  refine r_iconst (pc := 40) (2 : Int32) d_X12_nearest_40 rfl ?_
  refine q_cI (f := (oI Sh)) (av := [.ref 102, .int w1, .int (2 : Int32)]) (st := []) (z_runV ck_X12_bad rfl ml_X12_214 ci_X12_bad cv_X12_bad (K_102 h0) (ci := 12) rfl rfl (Nat.le_of_ble_eq_true rfl) d_X12_nearest_41) (s_X12_bad hst h0 (by omega)) kp_I (fun q8 _ => ?_)
  refine r_if_eq (f := (oI Sh)) (pc := 44) 49 d_X12_nearest_44 (by decide) (fun c9 => ?_) (fun c9 => ?_)
  · refine r_iconst (pc := 49) (-1 : Int32) d_X12_nearest_49 rfl ?_
    refine r_istore_n (pc := 50) (ls' := [(3, .int (-1 : Int32)), (0, .ref 102), (1, .int v1), (2, .int v2)]) d_X12_nearest_50 rfl (Nat.le_of_ble_eq_true rfl) rfl ?_
    refine r_iconst (pc := 51) (0 : Int32) d_X12_nearest_51 rfl ?_
    refine r_istore (pc := 52) (ls' := [(4, .int (0 : Int32)), (3, .int (-1 : Int32)), (0, .ref 102), (1, .int v1), (2, .int v2)]) d_X12_nearest_52 (Nat.le_of_ble_eq_true rfl) rfl ?_
    refine r_iconst (pc := 54) (0 : Int32) d_X12_nearest_54 rfl ?_
    refine r_istore (pc := 55) (ls' := [(5, .int (0 : Int32)), (4, .int (0 : Int32)), (3, .int (-1 : Int32)), (0, .ref 102), (1, .int v1), (2, .int v2)]) d_X12_nearest_55 (Nat.le_of_ble_eq_true rfl) rfl ?_
    refine r_pick [3, 4, 5, 2, 1, 0] (ls' := [(0, .ref 102), (1, .int v1), (2, .int v2), (3, .int (-1 : Int32)), (4, .int (0 : Int32)), (5, .int (0 : Int32))]) rfl ?_
    exact s_X12_nearest_57 hst h0 hd zFU  (-1 : Int32) (0 : Int32) (0 : Int32) q8.2
  · refine r_iconst (pc := 47) (0 : Int32) d_X12_nearest_47 rfl ?_
    exact r_iret (pc := 48) rfl d_X12_nearest_48
theorem s_X12_nearest_19 {X : zX} {Sh : zSh} {d : Nat} (hst : (zl X).stackTraces = false) (h0 : zSh0 Sh) (hd : 3 ≤ d) {v1 : Int32} {v2 : Int32} (w1 : Int32) (D : zD)  : Rn X m_X12_nearest (d + 1) 19 [(0, .ref 102), (1, .int v1), (2, .int v2)] [.int w1, .ref 102] (Sh, D) ((oI Sh) (fn_X12_nearest_19 v1 v2 w1 D)) := by
  rw [fn_X12_nearest_19]
  refine r_iconst (pc := 19) (1 : Int32) d_X12_nearest_19 rfl ?_
  refine q_cI (f := (oI Sh)) (av := [.ref 102, .int w1, .int (1 : Int32)]) (st := []) (z_runV ck_X12_bad rfl ml_X12_214 ci_X12_bad cv_X12_bad (K_102 h0) (ci := 12) rfl rfl (Nat.le_of_ble_eq_true rfl) d_X12_nearest_20) (s_X12_bad hst h0 (by omega)) kp_I (fun q4 _ => ?_)
  refine r_if_ne (f := (oI Sh)) (pc := 23) 47 d_X12_nearest_23 (by decide) (fun c5 => ?_) (fun c5 => ?_)
  · refine r_iconst (pc := 47) (0 : Int32) d_X12_nearest_47 rfl ?_
    exact r_iret (pc := 48) rfl d_X12_nearest_48
  · refine r_aload_n (pc := 26) 0 d_X12_nearest_26 rfl rfl ?_
    refine r_aload_n (pc := 27) 0 d_X12_nearest_27 rfl rfl ?_
    refine r_iload_n (pc := 28) 2 d_X12_nearest_28 rfl rfl ?_
    refine q_cP (f := (oI Sh)) (av := [.ref 102, .int v2]) (st := [.ref 102]) (z_runV ck_X12_isPaint rfl ml_X12_320 ci_X12_isPaint cv_X12_isPaint (K_102 h0) (ci := 12) rfl rfl (Nat.le_of_ble_eq_true rfl) d_X12_nearest_29) (s_X12_isPaint hst h0 (by omega)) kp_I (fun x6 _ => ?_)
    refine r_if_ne (f := (oI Sh)) (pc := 32) 39 d_X12_nearest_32 (by decide) (fun c7 => ?_) (fun c7 => ?_)
    · refine r_iconst (pc := 39) (0 : Int32) d_X12_nearest_39 rfl ?_
      refine r_pick [0, 1, 2] (ls' := [(0, .ref 102), (1, .int v1), (2, .int v2)]) rfl ?_
      exact s_X12_nearest_40 hst h0 hd (0 : Int32) q4.2
    · refine r_iconst (pc := 35) (1 : Int32) d_X12_nearest_35 rfl ?_
      refine r_goto (pc := 36) 40 d_X12_nearest_36 (by decide) ?_
      refine r_pick [0, 1, 2] (ls' := [(0, .ref 102), (1, .int v1), (2, .int v2)]) rfl ?_
      exact s_X12_nearest_40 hst h0 hd (1 : Int32) q4.2
theorem s_X12_nearest {X : zX} {Sh : zSh} {d : Nat} (hst : (zl X).stackTraces = false) (h0 : zSh0 Sh) (hd : 4 ≤ d) {v1 : Int32} {v2 : Int32} {D : zD} : Sd X m_X12_nearest d [.ref 102, .int v1, .int v2] (Sh, D) ((oI Sh) (fn_X12_nearest v1 v2 D)) := by
  obtain ⟨d, rfl⟩ : ∃ e, d = e + 1 := ⟨d - 1, by omega⟩
  replace hd : 3 ≤ d := by omega
  refine z_body ck_X12_nearest rfl (Nat.le_of_ble_eq_true rfl) rfl hst ?_
  rw [fn_X12_nearest]
  show Rn X m_X12_nearest (d + 1) 0 [(0, .ref 102), (1, .int v1), (2, .int v2)] [] (Sh, D) _
  refine r_aload_n (pc := 0) 0 d_X12_nearest_0 rfl rfl ?_
  refine r_iconst (pc := 1) (0 : Int32) d_X12_nearest_1 rfl ?_
  refine r_putI (pc := 2) p_X12_113 (K_102 h0) rfl (Or.inl rfl) d_X12_nearest_2 ?_
  refine r_letD (f := (oI Sh)) (fun D1 => ?_)
  refine r_aload_n (pc := 5) 0 d_X12_nearest_5 rfl rfl ?_
  refine r_aload_n (pc := 6) 0 d_X12_nearest_6 rfl rfl ?_
  refine r_iload_n (pc := 7) 1 d_X12_nearest_7 rfl rfl ?_
  refine q_cP (f := (oI Sh)) (av := [.ref 102, .int v1]) (st := [.ref 102]) (z_runV ck_X12_isCover rfl ml_X12_299 ci_X12_isCover cv_X12_isCover (K_102 h0) (ci := 12) rfl rfl (Nat.le_of_ble_eq_true rfl) d_X12_nearest_8) (s_X12_isCover hst h0 (by omega)) kp_I (fun x2 _ => ?_)
  refine r_if_ne (f := (oI Sh)) (pc := 11) 18 d_X12_nearest_11 (by decide) (fun c3 => ?_) (fun c3 => ?_)
  · refine r_iconst (pc := 18) (0 : Int32) d_X12_nearest_18 rfl ?_
    refine r_pick [0, 1, 2] (ls' := [(0, .ref 102), (1, .int v1), (2, .int v2)]) rfl ?_
    exact s_X12_nearest_19 hst h0 hd (0 : Int32) D1
  · refine r_iconst (pc := 14) (1 : Int32) d_X12_nearest_14 rfl ?_
    refine r_goto (pc := 15) 19 d_X12_nearest_15 (by decide) ?_
    refine r_pick [0, 1, 2] (ls' := [(0, .ref 102), (1, .int v1), (2, .int v2)]) rfl ?_
    exact s_X12_nearest_19 hst h0 hd (1 : Int32) D1
/-! CoveredSignsModel.part -/
theorem d_X12_part_0 : decode (yB m_X12_part) 0 = .ok (.aload_n 0, 1) := by decide +kernel
theorem d_X12_part_1 : decode (yB m_X12_part) 1 = .ok (.iconst 0, 1) := by decide +kernel
theorem d_X12_part_2 : decode (yB m_X12_part) 2 = .ok (.putfield 113, 3) := by decide +kernel
theorem d_X12_part_5 : decode (yB m_X12_part) 5 = .ok (.aload_n 0, 1) := by decide +kernel
theorem d_X12_part_6 : decode (yB m_X12_part) 6 = .ok (.aload_n 0, 1) := by decide +kernel
theorem d_X12_part_7 : decode (yB m_X12_part) 7 = .ok (.iload_n 1, 1) := by decide +kernel
theorem d_X12_part_8 : decode (yB m_X12_part) 8 = .ok (.invokevirtual 299, 3) := by decide +kernel
theorem d_X12_part_11 : decode (yB m_X12_part) 11 = .ok (.ifCond .ne 7, 3) := by decide +kernel
theorem d_X12_part_14 : decode (yB m_X12_part) 14 = .ok (.iconst 1, 1) := by decide +kernel
theorem d_X12_part_15 : decode (yB m_X12_part) 15 = .ok (.goto 4, 3) := by decide +kernel
theorem d_X12_part_18 : decode (yB m_X12_part) 18 = .ok (.iconst 0, 1) := by decide +kernel
theorem d_X12_part_19 : decode (yB m_X12_part) 19 = .ok (.iconst 1, 1) := by decide +kernel
theorem d_X12_part_20 : decode (yB m_X12_part) 20 = .ok (.invokevirtual 214, 3) := by decide +kernel
theorem d_X12_part_23 : decode (yB m_X12_part) 23 = .ok (.ifCond .ne 24, 3) := by decide +kernel
theorem d_X12_part_26 : decode (yB m_X12_part) 26 = .ok (.aload_n 0, 1) := by decide +kernel
theorem d_X12_part_27 : decode (yB m_X12_part) 27 = .ok (.aload_n 0, 1) := by decide +kernel
theorem d_X12_part_28 : decode (yB m_X12_part) 28 = .ok (.iload_n 2, 1) := by decide +kernel
theorem d_X12_part_29 : decode (yB m_X12_part) 29 = .ok (.invokevirtual 320, 3) := by decide +kernel
theorem d_X12_part_32 : decode (yB m_X12_part) 32 = .ok (.ifCond .ne 7, 3) := by decide +kernel
theorem d_X12_part_35 : decode (yB m_X12_part) 35 = .ok (.iconst 1, 1) := by decide +kernel
theorem d_X12_part_36 : decode (yB m_X12_part) 36 = .ok (.goto 4, 3) := by decide +kernel
theorem d_X12_part_39 : decode (yB m_X12_part) 39 = .ok (.iconst 0, 1) := by decide +kernel
theorem d_X12_part_40 : decode (yB m_X12_part) 40 = .ok (.iconst 2, 1) := by decide +kernel
theorem d_X12_part_41 : decode (yB m_X12_part) 41 = .ok (.invokevirtual 214, 3) := by decide +kernel
theorem d_X12_part_44 : decode (yB m_X12_part) 44 = .ok (.ifCond .eq 5, 3) := by decide +kernel
theorem d_X12_part_47 : decode (yB m_X12_part) 47 = .ok (.iconst 0, 1) := by decide +kernel
theorem d_X12_part_48 : decode (yB m_X12_part) 48 = .ok (.ireturn, 1) := by decide +kernel
theorem d_X12_part_49 : decode (yB m_X12_part) 49 = .ok (.aload_n 0, 1) := by decide +kernel
theorem d_X12_part_50 : decode (yB m_X12_part) 50 = .ok (.getfield 233, 3) := by decide +kernel
theorem d_X12_part_53 : decode (yB m_X12_part) 53 = .ok (.bipush 6, 2) := by decide +kernel
theorem d_X12_part_55 : decode (yB m_X12_part) 55 = .ok (.if_icmp .ne 5, 3) := by decide +kernel
theorem d_X12_part_58 : decode (yB m_X12_part) 58 = .ok (.iconst (-1), 1) := by decide +kernel
theorem d_X12_part_59 : decode (yB m_X12_part) 59 = .ok (.ireturn, 1) := by decide +kernel
theorem d_X12_part_60 : decode (yB m_X12_part) 60 = .ok (.aload_n 0, 1) := by decide +kernel
theorem d_X12_part_61 : decode (yB m_X12_part) 61 = .ok (.getfield 64, 3) := by decide +kernel
theorem d_X12_part_64 : decode (yB m_X12_part) 64 = .ok (.aload_n 0, 1) := by decide +kernel
theorem d_X12_part_65 : decode (yB m_X12_part) 65 = .ok (.getfield 233, 3) := by decide +kernel
theorem d_X12_part_68 : decode (yB m_X12_part) 68 = .ok (.aaload, 1) := by decide +kernel
theorem d_X12_part_69 : decode (yB m_X12_part) 69 = .ok (.iconst 0, 1) := by decide +kernel
theorem d_X12_part_70 : decode (yB m_X12_part) 70 = .ok (.aload_n 0, 1) := by decide +kernel
theorem d_X12_part_71 : decode (yB m_X12_part) 71 = .ok (.getfield 52, 3) := by decide +kernel
theorem d_X12_part_74 : decode (yB m_X12_part) 74 = .ok (.iload_n 1, 1) := by decide +kernel
theorem d_X12_part_75 : decode (yB m_X12_part) 75 = .ok (.iaload, 1) := by decide +kernel
theorem d_X12_part_76 : decode (yB m_X12_part) 76 = .ok (.iastore, 1) := by decide +kernel
theorem d_X12_part_77 : decode (yB m_X12_part) 77 = .ok (.aload_n 0, 1) := by decide +kernel
theorem d_X12_part_78 : decode (yB m_X12_part) 78 = .ok (.getfield 64, 3) := by decide +kernel
theorem d_X12_part_81 : decode (yB m_X12_part) 81 = .ok (.aload_n 0, 1) := by decide +kernel
theorem d_X12_part_82 : decode (yB m_X12_part) 82 = .ok (.getfield 233, 3) := by decide +kernel
theorem d_X12_part_85 : decode (yB m_X12_part) 85 = .ok (.aaload, 1) := by decide +kernel
theorem d_X12_part_86 : decode (yB m_X12_part) 86 = .ok (.iconst 1, 1) := by decide +kernel
theorem d_X12_part_87 : decode (yB m_X12_part) 87 = .ok (.iload_n 2, 1) := by decide +kernel
theorem d_X12_part_88 : decode (yB m_X12_part) 88 = .ok (.iastore, 1) := by decide +kernel
theorem d_X12_part_89 : decode (yB m_X12_part) 89 = .ok (.aload_n 0, 1) := by decide +kernel
theorem d_X12_part_90 : decode (yB m_X12_part) 90 = .ok (.dup, 1) := by decide +kernel
theorem d_X12_part_91 : decode (yB m_X12_part) 91 = .ok (.getfield 233, 3) := by decide +kernel
theorem d_X12_part_94 : decode (yB m_X12_part) 94 = .ok (.iconst 1, 1) := by decide +kernel
theorem d_X12_part_95 : decode (yB m_X12_part) 95 = .ok (.iadd, 1) := by decide +kernel
theorem d_X12_part_96 : decode (yB m_X12_part) 96 = .ok (.putfield 233, 3) := by decide +kernel
theorem d_X12_part_99 : decode (yB m_X12_part) 99 = .ok (.aload_n 0, 1) := by decide +kernel
theorem d_X12_part_100 : decode (yB m_X12_part) 100 = .ok (.getfield 233, 3) := by decide +kernel
theorem d_X12_part_103 : decode (yB m_X12_part) 103 = .ok (.ireturn, 1) := by decide +kernel
def fn_X12_part_40 (v1 : Int32) (v2 : Int32) (w1 : Int32) (D : zD) : Option (Int32 × zD) := (fn_X12_bad w1 (2 : Int32) D).bind fun q8 => (if q8.1 = 0 then ((if (gI q8.2 102 35) = (6 : Int32) then ((some ((-1 : Int32), q8.2))) else (zck (gI q8.2 102 35) 6 <| zck v1 500 <| zlet (sI q8.2 (163 + (gI q8.2 102 35).toNatClampNeg) 0 (gI q8.2 128 v1.toNatClampNeg)) fun D13 => zck (gI D13 102 35) 6 <| zlet (sI D13 (163 + (gI D13 102 35).toNatClampNeg) 1 v2) fun D15 => zlet (sI D15 102 35 ((gI D15 102 35) + (1 : Int32))) fun D16 => (some ((gI D16 102 35), D16))))) else ((some ((0 : Int32), q8.2))))
def fn_X12_part_19 (v1 : Int32) (v2 : Int32) (w1 : Int32) (D : zD) : Option (Int32 × zD) := (fn_X12_bad w1 (1 : Int32) D).bind fun q4 => (if q4.1 = 0 then ((fn_X12_isPaint v2 q4.2).bind fun x6 => (if x6 = 0 then ((fn_X12_part_40 v1 v2 (1 : Int32) q4.2)) else ((fn_X12_part_40 v1 v2 (0 : Int32) q4.2)))) else ((some ((0 : Int32), q4.2))))
def fn_X12_part (v1 : Int32) (v2 : Int32) (D : zD) : Option (Int32 × zD) := zlet (sI D 102 0 (0 : Int32)) fun D1 => (fn_X12_isCover v1 D1).bind fun x2 => (if x2 = 0 then ((fn_X12_part_19 v1 v2 (1 : Int32) D1)) else ((fn_X12_part_19 v1 v2 (0 : Int32) D1)))
theorem s_X12_part_40 {X : zX} {Sh : zSh} {d : Nat} (hst : (zl X).stackTraces = false) (h0 : zSh0 Sh) (hd : 3 ≤ d) {v1 : Int32} {v2 : Int32} (w1 : Int32) (D : zD)  : Rn X m_X12_part (d + 1) 40 [(0, .ref 102), (1, .int v1), (2, .int v2)] [.int w1, .ref 102] (Sh, D) ((oI Sh) (fn_X12_part_40 v1 v2 w1 D)) := by
  rw [fn_X12_part_40]
  refine r_iconst (pc := 40) (2 : Int32) d_X12_part_40 rfl ?_
  refine q_cI (f := (oI Sh)) (av := [.ref 102, .int w1, .int (2 : Int32)]) (st := []) (z_runV ck_X12_bad rfl ml_X12_214 ci_X12_bad cv_X12_bad (K_102 h0) (ci := 12) rfl rfl (Nat.le_of_ble_eq_true rfl) d_X12_part_41) (s_X12_bad hst h0 (by omega)) kp_I (fun q8 _ => ?_)
  refine r_if_eq (f := (oI Sh)) (pc := 44) 49 d_X12_part_44 (by decide) (fun c9 => ?_) (fun c9 => ?_)
  · refine r_aload_n (pc := 49) 0 d_X12_part_49 rfl rfl ?_
    refine q_gI (pc := 50) g_X12_233 (K_102 h0) rfl d_X12_part_50 ?_
    refine r_bipush (pc := 53) (6 : Int32) d_X12_part_53 rfl ?_
    refine r_icmp_ne (f := (oI Sh)) (pc := 55) 60 d_X12_part_55 (by decide) (fun c10 => ?_) (fun c10 => ?_)
    · refine r_aload_n (pc := 60) 0 d_X12_part_60 rfl rfl ?_
      refine r_getR (pc := 61) g_X12_64 (K_102 h0) rfl (R_102_39 h0) d_X12_part_61 ?_
      refine r_aload_n (pc := 64) 0 d_X12_part_64 rfl rfl ?_
      refine q_gI (pc := 65) g_X12_233 (K_102 h0) rfl d_X12_part_65 ?_
      refine r_ck (f := (oI Sh)) rfl (fun hc11 => ?_)
      refine q_aald (pc := 68) (j := (gI q8.2 102 35).toNatClampNeg) (K_162 h0) (Or.inl ⟨rfl, rfl⟩) hc11 rfl (RW_162 h0 _ (z_lt hc11)) d_X12_part_68 ?_
      refine r_iconst (pc := 69) (0 : Int32) d_X12_part_69 rfl ?_
      refine r_aload_n (pc := 70) 0 d_X12_part_70 rfl rfl ?_
      refine r_getR (pc := 71) g_X12_52 (K_102 h0) rfl (R_102_28 h0) d_X12_part_71 ?_
      refine r_iload_n (pc := 74) 1 d_X12_part_74 rfl rfl ?_
      refine r_ck (f := (oI Sh)) rfl (fun hc12 => ?_)
      refine q_iald (pc := 75) (j := v1.toNatClampNeg) (K_128 h0) hc12 rfl d_X12_part_75 ?_
      refine q_iast (pc := 76) (j := 0) (RK_162 h0 _ (z_lt hc11)) (by unfold vp_in; decide) rfl  d_X12_part_76 ?_
      refine r_letD (f := (oI Sh)) (fun D13 => ?_)
      refine r_aload_n (pc := 77) 0 d_X12_part_77 rfl rfl ?_
      refine r_getR (pc := 78) g_X12_64 (K_102 h0) rfl (R_102_39 h0) d_X12_part_78 ?_
      refine r_aload_n (pc := 81) 0 d_X12_part_81 rfl rfl ?_
      refine q_gI (pc := 82) g_X12_233 (K_102 h0) rfl d_X12_part_82 ?_
      refine r_ck (f := (oI Sh)) rfl (fun hc14 => ?_)
      refine q_aald (pc := 85) (j := (gI D13 102 35).toNatClampNeg) (K_162 h0) (Or.inl ⟨rfl, rfl⟩) hc14 rfl (RW_162 h0 _ (z_lt hc14)) d_X12_part_85 ?_
      refine r_iconst (pc := 86) (1 : Int32) d_X12_part_86 rfl ?_
      refine r_iload_n (pc := 87) 2 d_X12_part_87 rfl rfl ?_
      refine q_iast (pc := 88) (j := 1) (RK_162 h0 _ (z_lt hc14)) (by unfold vp_in; decide) rfl  d_X12_part_88 ?_
      refine r_letD (f := (oI Sh)) (fun D15 => ?_)
      refine r_aload_n (pc := 89) 0 d_X12_part_89 rfl rfl ?_
      refine r_dup (pc := 90) d_X12_part_90 rfl ?_
      refine q_gI (pc := 91) g_X12_233 (K_102 h0) rfl d_X12_part_91 ?_
      refine r_iconst (pc := 94) (1 : Int32) d_X12_part_94 rfl ?_
      refine r_iadd (pc := 95) d_X12_part_95 ?_
      refine r_putI (pc := 96) p_X12_233 (K_102 h0) rfl (Or.inl rfl) d_X12_part_96 ?_
      refine r_letD (f := (oI Sh)) (fun D16 => ?_)
      refine r_aload_n (pc := 99) 0 d_X12_part_99 rfl rfl ?_
      refine q_gI (pc := 100) g_X12_233 (K_102 h0) rfl d_X12_part_100 ?_
      exact r_iret (pc := 103) rfl d_X12_part_103
    · refine r_iconst (pc := 58) (-1 : Int32) d_X12_part_58 rfl ?_
      exact r_iret (pc := 59) rfl d_X12_part_59
  · refine r_iconst (pc := 47) (0 : Int32) d_X12_part_47 rfl ?_
    exact r_iret (pc := 48) rfl d_X12_part_48
theorem s_X12_part_19 {X : zX} {Sh : zSh} {d : Nat} (hst : (zl X).stackTraces = false) (h0 : zSh0 Sh) (hd : 3 ≤ d) {v1 : Int32} {v2 : Int32} (w1 : Int32) (D : zD)  : Rn X m_X12_part (d + 1) 19 [(0, .ref 102), (1, .int v1), (2, .int v2)] [.int w1, .ref 102] (Sh, D) ((oI Sh) (fn_X12_part_19 v1 v2 w1 D)) := by
  rw [fn_X12_part_19]
  refine r_iconst (pc := 19) (1 : Int32) d_X12_part_19 rfl ?_
  refine q_cI (f := (oI Sh)) (av := [.ref 102, .int w1, .int (1 : Int32)]) (st := []) (z_runV ck_X12_bad rfl ml_X12_214 ci_X12_bad cv_X12_bad (K_102 h0) (ci := 12) rfl rfl (Nat.le_of_ble_eq_true rfl) d_X12_part_20) (s_X12_bad hst h0 (by omega)) kp_I (fun q4 _ => ?_)
  refine r_if_ne (f := (oI Sh)) (pc := 23) 47 d_X12_part_23 (by decide) (fun c5 => ?_) (fun c5 => ?_)
  · refine r_iconst (pc := 47) (0 : Int32) d_X12_part_47 rfl ?_
    exact r_iret (pc := 48) rfl d_X12_part_48
  · refine r_aload_n (pc := 26) 0 d_X12_part_26 rfl rfl ?_
    refine r_aload_n (pc := 27) 0 d_X12_part_27 rfl rfl ?_
    refine r_iload_n (pc := 28) 2 d_X12_part_28 rfl rfl ?_
    refine q_cP (f := (oI Sh)) (av := [.ref 102, .int v2]) (st := [.ref 102]) (z_runV ck_X12_isPaint rfl ml_X12_320 ci_X12_isPaint cv_X12_isPaint (K_102 h0) (ci := 12) rfl rfl (Nat.le_of_ble_eq_true rfl) d_X12_part_29) (s_X12_isPaint hst h0 (by omega)) kp_I (fun x6 _ => ?_)
    refine r_if_ne (f := (oI Sh)) (pc := 32) 39 d_X12_part_32 (by decide) (fun c7 => ?_) (fun c7 => ?_)
    · refine r_iconst (pc := 39) (0 : Int32) d_X12_part_39 rfl ?_
      refine r_pick [0, 1, 2] (ls' := [(0, .ref 102), (1, .int v1), (2, .int v2)]) rfl ?_
      exact s_X12_part_40 hst h0 hd (0 : Int32) q4.2
    · refine r_iconst (pc := 35) (1 : Int32) d_X12_part_35 rfl ?_
      refine r_goto (pc := 36) 40 d_X12_part_36 (by decide) ?_
      refine r_pick [0, 1, 2] (ls' := [(0, .ref 102), (1, .int v1), (2, .int v2)]) rfl ?_
      exact s_X12_part_40 hst h0 hd (1 : Int32) q4.2
theorem s_X12_part {X : zX} {Sh : zSh} {d : Nat} (hst : (zl X).stackTraces = false) (h0 : zSh0 Sh) (hd : 4 ≤ d) {v1 : Int32} {v2 : Int32} {D : zD} : Sd X m_X12_part d [.ref 102, .int v1, .int v2] (Sh, D) ((oI Sh) (fn_X12_part v1 v2 D)) := by
  obtain ⟨d, rfl⟩ : ∃ e, d = e + 1 := ⟨d - 1, by omega⟩
  replace hd : 3 ≤ d := by omega
  refine z_body ck_X12_part rfl (Nat.le_of_ble_eq_true rfl) rfl hst ?_
  rw [fn_X12_part]
  show Rn X m_X12_part (d + 1) 0 [(0, .ref 102), (1, .int v1), (2, .int v2)] [] (Sh, D) _
  refine r_aload_n (pc := 0) 0 d_X12_part_0 rfl rfl ?_
  refine r_iconst (pc := 1) (0 : Int32) d_X12_part_1 rfl ?_
  refine r_putI (pc := 2) p_X12_113 (K_102 h0) rfl (Or.inl rfl) d_X12_part_2 ?_
  refine r_letD (f := (oI Sh)) (fun D1 => ?_)
  refine r_aload_n (pc := 5) 0 d_X12_part_5 rfl rfl ?_
  refine r_aload_n (pc := 6) 0 d_X12_part_6 rfl rfl ?_
  refine r_iload_n (pc := 7) 1 d_X12_part_7 rfl rfl ?_
  refine q_cP (f := (oI Sh)) (av := [.ref 102, .int v1]) (st := [.ref 102]) (z_runV ck_X12_isCover rfl ml_X12_299 ci_X12_isCover cv_X12_isCover (K_102 h0) (ci := 12) rfl rfl (Nat.le_of_ble_eq_true rfl) d_X12_part_8) (s_X12_isCover hst h0 (by omega)) kp_I (fun x2 _ => ?_)
  refine r_if_ne (f := (oI Sh)) (pc := 11) 18 d_X12_part_11 (by decide) (fun c3 => ?_) (fun c3 => ?_)
  · refine r_iconst (pc := 18) (0 : Int32) d_X12_part_18 rfl ?_
    refine r_pick [0, 1, 2] (ls' := [(0, .ref 102), (1, .int v1), (2, .int v2)]) rfl ?_
    exact s_X12_part_19 hst h0 hd (0 : Int32) D1
  · refine r_iconst (pc := 14) (1 : Int32) d_X12_part_14 rfl ?_
    refine r_goto (pc := 15) 19 d_X12_part_15 (by decide) ?_
    refine r_pick [0, 1, 2] (ls' := [(0, .ref 102), (1, .int v1), (2, .int v2)]) rfl ?_
    exact s_X12_part_19 hst h0 hd (1 : Int32) D1
/-! CoveredSignsModel.forget -/
theorem d_X12_forget_0 : decode (yB m_X12_forget) 0 = .ok (.aload_n 0, 1) := by decide +kernel
theorem d_X12_forget_1 : decode (yB m_X12_forget) 1 = .ok (.iconst 0, 1) := by decide +kernel
theorem d_X12_forget_2 : decode (yB m_X12_forget) 2 = .ok (.putfield 113, 3) := by decide +kernel
theorem d_X12_forget_5 : decode (yB m_X12_forget) 5 = .ok (.aload_n 0, 1) := by decide +kernel
theorem d_X12_forget_6 : decode (yB m_X12_forget) 6 = .ok (.getfield 233, 3) := by decide +kernel
theorem d_X12_forget_9 : decode (yB m_X12_forget) 9 = .ok (.istore_n 1, 1) := by decide +kernel
theorem d_X12_forget_10 : decode (yB m_X12_forget) 10 = .ok (.aload_n 0, 1) := by decide +kernel
theorem d_X12_forget_11 : decode (yB m_X12_forget) 11 = .ok (.iconst 0, 1) := by decide +kernel
theorem d_X12_forget_12 : decode (yB m_X12_forget) 12 = .ok (.putfield 233, 3) := by decide +kernel
theorem d_X12_forget_15 : decode (yB m_X12_forget) 15 = .ok (.iload_n 1, 1) := by decide +kernel
theorem d_X12_forget_16 : decode (yB m_X12_forget) 16 = .ok (.ireturn, 1) := by decide +kernel
def fn_X12_forget (D : zD) : Option (Int32 × zD) := zlet (sI D 102 0 (0 : Int32)) fun D1 => zlet (gI D1 102 35) fun x2 => zlet (sI D1 102 35 (0 : Int32)) fun D3 => (some (x2, D3))
theorem s_X12_forget {X : zX} {Sh : zSh} {d : Nat} (hst : (zl X).stackTraces = false) (h0 : zSh0 Sh) (hd : 1 ≤ d)  {D : zD} : Sd X m_X12_forget d [.ref 102] (Sh, D) ((oI Sh) (fn_X12_forget D)) := by
  obtain ⟨d, rfl⟩ : ∃ e, d = e + 1 := ⟨d - 1, by omega⟩
  replace hd : 0 ≤ d := by omega
  refine z_body ck_X12_forget rfl (Nat.le_of_ble_eq_true rfl) rfl hst ?_
  rw [fn_X12_forget]
  show Rn X m_X12_forget (d + 1) 0 [(0, .ref 102)] [] (Sh, D) _
  refine r_aload_n (pc := 0) 0 d_X12_forget_0 rfl rfl ?_
  refine r_iconst (pc := 1) (0 : Int32) d_X12_forget_1 rfl ?_
  refine r_putI (pc := 2) p_X12_113 (K_102 h0) rfl (Or.inl rfl) d_X12_forget_2 ?_
  refine r_letD (f := (oI Sh)) (fun D1 => ?_)
  refine r_aload_n (pc := 5) 0 d_X12_forget_5 rfl rfl ?_
  refine q_gI (pc := 6) g_X12_233 (K_102 h0) rfl d_X12_forget_6 ?_
  refine r_leti (f := (oI Sh)) (fun x2 => ?_)
  refine r_istore_n (pc := 9) (ls' := [(1, .int x2), (0, .ref 102)]) d_X12_forget_9 rfl (Nat.le_of_ble_eq_true rfl) rfl ?_
  refine r_aload_n (pc := 10) 1 d_X12_forget_10 rfl rfl ?_
  refine r_iconst (pc := 11) (0 : Int32) d_X12_forget_11 rfl ?_
  refine r_putI (pc := 12) p_X12_233 (K_102 h0) rfl (Or.inl rfl) d_X12_forget_12 ?_
  refine r_letD (f := (oI Sh)) (fun D3 => ?_)
  refine r_iload_n (pc := 15) 0 d_X12_forget_15 rfl rfl ?_
  exact r_iret (pc := 16) rfl d_X12_forget_16
/-! CoveredSignsModel.wordsOf -/
theorem d_X12_wordsOf_0 : decode (yB m_X12_wordsOf) 0 = .ok (.iconst 0, 1) := by decide +kernel
theorem d_X12_wordsOf_1 : decode (yB m_X12_wordsOf) 1 = .ok (.istore_n 1, 1) := by decide +kernel
theorem d_X12_wordsOf_2 : decode (yB m_X12_wordsOf) 2 = .ok (.iconst 0, 1) := by decide +kernel
theorem d_X12_wordsOf_3 : decode (yB m_X12_wordsOf) 3 = .ok (.istore_n 2, 1) := by decide +kernel
theorem d_X12_wordsOf_4 : decode (yB m_X12_wordsOf) 4 = .ok (.iload_n 2, 1) := by decide +kernel
theorem d_X12_wordsOf_5 : decode (yB m_X12_wordsOf) 5 = .ok (.aload_n 0, 1) := by decide +kernel
theorem d_X12_wordsOf_6 : decode (yB m_X12_wordsOf) 6 = .ok (.getfield 227, 3) := by decide +kernel
theorem d_X12_wordsOf_9 : decode (yB m_X12_wordsOf) 9 = .ok (.if_icmp .ge 108, 3) := by decide +kernel
theorem d_X12_wordsOf_12 : decode (yB m_X12_wordsOf) 12 = .ok (.aload_n 0, 1) := by decide +kernel
theorem d_X12_wordsOf_13 : decode (yB m_X12_wordsOf) 13 = .ok (.getfield 38, 3) := by decide +kernel
theorem d_X12_wordsOf_16 : decode (yB m_X12_wordsOf) 16 = .ok (.iload_n 2, 1) := by decide +kernel
theorem d_X12_wordsOf_17 : decode (yB m_X12_wordsOf) 17 = .ok (.iaload, 1) := by decide +kernel
theorem d_X12_wordsOf_18 : decode (yB m_X12_wordsOf) 18 = .ok (.aload_n 0, 1) := by decide +kernel
theorem d_X12_wordsOf_19 : decode (yB m_X12_wordsOf) 19 = .ok (.getfield 233, 3) := by decide +kernel
theorem d_X12_wordsOf_22 : decode (yB m_X12_wordsOf) 22 = .ok (.if_icmp .ne 7, 3) := by decide +kernel
theorem d_X12_wordsOf_25 : decode (yB m_X12_wordsOf) 25 = .ok (.iconst 1, 1) := by decide +kernel
theorem d_X12_wordsOf_26 : decode (yB m_X12_wordsOf) 26 = .ok (.goto 4, 3) := by decide +kernel
theorem d_X12_wordsOf_29 : decode (yB m_X12_wordsOf) 29 = .ok (.iconst 0, 1) := by decide +kernel
theorem d_X12_wordsOf_30 : decode (yB m_X12_wordsOf) 30 = .ok (.istore_n 3, 1) := by decide +kernel
theorem d_X12_wordsOf_31 : decode (yB m_X12_wordsOf) 31 = .ok (.iconst 0, 1) := by decide +kernel
theorem d_X12_wordsOf_32 : decode (yB m_X12_wordsOf) 32 = .ok (.istore 4, 2) := by decide +kernel
theorem d_X12_wordsOf_34 : decode (yB m_X12_wordsOf) 34 = .ok (.iload 4, 2) := by decide +kernel
theorem d_X12_wordsOf_36 : decode (yB m_X12_wordsOf) 36 = .ok (.aload_n 0, 1) := by decide +kernel
theorem d_X12_wordsOf_37 : decode (yB m_X12_wordsOf) 37 = .ok (.getfield 233, 3) := by decide +kernel
theorem d_X12_wordsOf_40 : decode (yB m_X12_wordsOf) 40 = .ok (.if_icmp .ge 57, 3) := by decide +kernel
theorem d_X12_wordsOf_43 : decode (yB m_X12_wordsOf) 43 = .ok (.iload_n 3, 1) := by decide +kernel
theorem d_X12_wordsOf_44 : decode (yB m_X12_wordsOf) 44 = .ok (.ifCond .eq 53, 3) := by decide +kernel
theorem d_X12_wordsOf_47 : decode (yB m_X12_wordsOf) 47 = .ok (.aload_n 0, 1) := by decide +kernel
theorem d_X12_wordsOf_48 : decode (yB m_X12_wordsOf) 48 = .ok (.aload_n 0, 1) := by decide +kernel
theorem d_X12_wordsOf_49 : decode (yB m_X12_wordsOf) 49 = .ok (.getfield 64, 3) := by decide +kernel
theorem d_X12_wordsOf_52 : decode (yB m_X12_wordsOf) 52 = .ok (.iload 4, 2) := by decide +kernel
theorem d_X12_wordsOf_54 : decode (yB m_X12_wordsOf) 54 = .ok (.aaload, 1) := by decide +kernel
theorem d_X12_wordsOf_55 : decode (yB m_X12_wordsOf) 55 = .ok (.iconst 0, 1) := by decide +kernel
theorem d_X12_wordsOf_56 : decode (yB m_X12_wordsOf) 56 = .ok (.iaload, 1) := by decide +kernel
theorem d_X12_wordsOf_57 : decode (yB m_X12_wordsOf) 57 = .ok (.aload_n 0, 1) := by decide +kernel
theorem d_X12_wordsOf_58 : decode (yB m_X12_wordsOf) 58 = .ok (.getfield 64, 3) := by decide +kernel
theorem d_X12_wordsOf_61 : decode (yB m_X12_wordsOf) 61 = .ok (.iload 4, 2) := by decide +kernel
theorem d_X12_wordsOf_63 : decode (yB m_X12_wordsOf) 63 = .ok (.aaload, 1) := by decide +kernel
theorem d_X12_wordsOf_64 : decode (yB m_X12_wordsOf) 64 = .ok (.iconst 1, 1) := by decide +kernel
theorem d_X12_wordsOf_65 : decode (yB m_X12_wordsOf) 65 = .ok (.iaload, 1) := by decide +kernel
theorem d_X12_wordsOf_66 : decode (yB m_X12_wordsOf) 66 = .ok (.invokevirtual 323, 3) := by decide +kernel
theorem d_X12_wordsOf_69 : decode (yB m_X12_wordsOf) 69 = .ok (.aload_n 0, 1) := by decide +kernel
theorem d_X12_wordsOf_70 : decode (yB m_X12_wordsOf) 70 = .ok (.getfield 46, 3) := by decide +kernel
theorem d_X12_wordsOf_73 : decode (yB m_X12_wordsOf) 73 = .ok (.iload_n 2, 1) := by decide +kernel
theorem d_X12_wordsOf_74 : decode (yB m_X12_wordsOf) 74 = .ok (.aaload, 1) := by decide +kernel
theorem d_X12_wordsOf_75 : decode (yB m_X12_wordsOf) 75 = .ok (.iload 4, 2) := by decide +kernel
theorem d_X12_wordsOf_77 : decode (yB m_X12_wordsOf) 77 = .ok (.iaload, 1) := by decide +kernel
theorem d_X12_wordsOf_78 : decode (yB m_X12_wordsOf) 78 = .ok (.ishr, 1) := by decide +kernel
theorem d_X12_wordsOf_79 : decode (yB m_X12_wordsOf) 79 = .ok (.iconst 1, 1) := by decide +kernel
theorem d_X12_wordsOf_80 : decode (yB m_X12_wordsOf) 80 = .ok (.iand, 1) := by decide +kernel
theorem d_X12_wordsOf_81 : decode (yB m_X12_wordsOf) 81 = .ok (.iconst 1, 1) := by decide +kernel
theorem d_X12_wordsOf_82 : decode (yB m_X12_wordsOf) 82 = .ok (.if_icmp .ne 7, 3) := by decide +kernel
theorem d_X12_wordsOf_85 : decode (yB m_X12_wordsOf) 85 = .ok (.iconst 1, 1) := by decide +kernel
theorem d_X12_wordsOf_86 : decode (yB m_X12_wordsOf) 86 = .ok (.goto 4, 3) := by decide +kernel
theorem d_X12_wordsOf_89 : decode (yB m_X12_wordsOf) 89 = .ok (.iconst 0, 1) := by decide +kernel
theorem d_X12_wordsOf_90 : decode (yB m_X12_wordsOf) 90 = .ok (.istore_n 3, 1) := by decide +kernel
theorem d_X12_wordsOf_91 : decode (yB m_X12_wordsOf) 91 = .ok (.iinc 4 1, 3) := by decide +kernel
theorem d_X12_wordsOf_94 : decode (yB m_X12_wordsOf) 94 = .ok (.goto (-60), 3) := by decide +kernel
theorem d_X12_wordsOf_97 : decode (yB m_X12_wordsOf) 97 = .ok (.iload_n 1, 1) := by decide +kernel
theorem d_X12_wordsOf_98 : decode (yB m_X12_wordsOf) 98 = .ok (.iload_n 3, 1) := by decide +kernel
theorem d_X12_wordsOf_99 : decode (yB m_X12_wordsOf) 99 = .ok (.ifCond .eq 9, 3) := by decide +kernel
theorem d_X12_wordsOf_102 : decode (yB m_X12_wordsOf) 102 = .ok (.iconst 1, 1) := by decide +kernel
theorem d_X12_wordsOf_103 : decode (yB m_X12_wordsOf) 103 = .ok (.iload_n 2, 1) := by decide +kernel
theorem d_X12_wordsOf_104 : decode (yB m_X12_wordsOf) 104 = .ok (.ishl, 1) := by decide +kernel
theorem d_X12_wordsOf_105 : decode (yB m_X12_wordsOf) 105 = .ok (.goto 4, 3) := by decide +kernel
theorem d_X12_wordsOf_108 : decode (yB m_X12_wordsOf) 108 = .ok (.iconst 0, 1) := by decide +kernel
theorem d_X12_wordsOf_109 : decode (yB m_X12_wordsOf) 109 = .ok (.ior, 1) := by decide +kernel
theorem d_X12_wordsOf_110 : decode (yB m_X12_wordsOf) 110 = .ok (.istore_n 1, 1) := by decide +kernel
theorem d_X12_wordsOf_111 : decode (yB m_X12_wordsOf) 111 = .ok (.iinc 2 1, 3) := by decide +kernel
theorem d_X12_wordsOf_114 : decode (yB m_X12_wordsOf) 114 = .ok (.goto (-110), 3) := by decide +kernel
theorem d_X12_wordsOf_117 : decode (yB m_X12_wordsOf) 117 = .ok (.iload_n 1, 1) := by decide +kernel
theorem d_X12_wordsOf_118 : decode (yB m_X12_wordsOf) 118 = .ok (.ireturn, 1) := by decide +kernel
def fn_X12_wordsOf_97 (D : zD) (k4 : Int32 → Int32 → Option Int32) (v1 : Int32) (v2 : Int32) (v3 : Int32) : Option Int32 := (if v3 = 0 then (zlet (v1 ||| (0 : Int32)) fun x6 => (k4 x6 (v2 + (1 : Int32)))) else (zlet (v1 ||| ((1 : Int32) <<< (v2 &&& 31))) fun x7 => (k4 x7 (v2 + (1 : Int32)))))
def fn_X12_wordsOf_34 (D : zD) (k4 : Int32 → Int32 → Option Int32) : Nat → Int32 → Int32 → Int32 → Int32 → Option Int32
  | 0, _, _, _, _ => none
  | n + 1, v1, v2, v3, v4 => (if (gI D 102 35) ≤ v4 then ((fn_X12_wordsOf_97 D k4 v1 v2 v3)) else ((if v3 = 0 then ((fn_X12_wordsOf_97 D k4 v1 v2 v3)) else (zck v4 6 <| zck v4 6 <| (fn_X12_mayBe (gI D (163 + v4.toNatClampNeg) 0) (gI D (163 + v4.toNatClampNeg) 1) D).bind fun x11 => zck v2 8 <| zck v4 6 <| (if ((x11 >>> ((gI D (120 + v2.toNatClampNeg) v4.toNatClampNeg) &&& 31)) &&& (1 : Int32)) = (1 : Int32) then (((fn_X12_wordsOf_34 D k4 n) v1 v2 (1 : Int32) (v4 + (1 : Int32)))) else (((fn_X12_wordsOf_34 D k4 n) v1 v2 (0 : Int32) (v4 + (1 : Int32)))))))))
def fn_X12_wordsOf_4 (D : zD) : Nat → Int32 → Int32 → Option Int32
  | 0, _, _ => none
  | n + 1, v1, v2 => (if (gI D 102 17) ≤ v2 then ((some v1)) else (zck v2 8 <| (if (gI D 109 v2.toNatClampNeg) = (gI D 102 35) then ((fn_X12_wordsOf_34 D (fn_X12_wordsOf_4 D n) zFU v1 v2 (1 : Int32) (0 : Int32))) else ((fn_X12_wordsOf_34 D (fn_X12_wordsOf_4 D n) zFU v1 v2 (0 : Int32) (0 : Int32))))))
def fn_X12_wordsOf (D : zD) : Option Int32 := (fn_X12_wordsOf_4 D zFU (0 : Int32) (0 : Int32))
theorem s_X12_wordsOf_97 {X : zX} {Sh : zSh} {d : Nat} (hst : (zl X).stackTraces = false) (h0 : zSh0 Sh) (hd : 2 ≤ d) (D : zD) (k4 : Int32 → Int32 → Option Int32) (hk4 : ∀ (v1 : Int32) (v2 : Int32) , Rn X m_X12_wordsOf (d + 1) 4 [(0, .ref 102), (1, .int v1), (2, .int v2)] [] (Sh, D) ((oP Sh D) (k4 v1 v2))) (v1 : Int32) (v2 : Int32) (v3 : Int32)  : Rn X m_X12_wordsOf (d + 1) 97 [(0, .ref 102), (1, .int v1), (2, .int v2), (3, .int v3)] [] (Sh, D) ((oP Sh D) (fn_X12_wordsOf_97 D k4 v1 v2 v3)) := by
  rw [fn_X12_wordsOf_97]
  refine r_iload_n (pc := 97) 1 d_X12_wordsOf_97 rfl rfl ?_
  refine r_iload_n (pc := 98) 3 d_X12_wordsOf_98 rfl rfl ?_
  refine r_if_eq (f := (oP Sh D)) (pc := 99) 108 d_X12_wordsOf_99 (by decide) (fun c5 => ?_) (fun c5 => ?_)
  · refine r_iconst (pc := 108) (0 : Int32) d_X12_wordsOf_108 rfl ?_
    refine r_ior (pc := 109) d_X12_wordsOf_109 ?_
    refine r_leti (f := (oP Sh D)) (fun x6 => ?_)
    refine r_istore_n (pc := 110) (ls' := [(1, .int x6), (0, .ref 102), (2, .int v2), (3, .int v3)]) d_X12_wordsOf_110 rfl (Nat.le_of_ble_eq_true rfl) rfl ?_
    refine r_iinc (pc := 111) ((v2 + (1 : Int32))) 2 (ls' := [(2, .int (v2 + (1 : Int32))), (1, .int x6), (0, .ref 102), (3, .int v3)]) d_X12_wordsOf_111 rfl rfl (Nat.le_of_ble_eq_true rfl) rfl ?_
    refine r_goto (pc := 114) 4 d_X12_wordsOf_114 (by decide) ?_
    refine r_pick [2, 1, 0] (ls' := [(0, .ref 102), (1, .int x6), (2, .int (v2 + (1 : Int32)))]) rfl ?_
    exact hk4 x6 (v2 + (1 : Int32)) 
  · refine r_iconst (pc := 102) (1 : Int32) d_X12_wordsOf_102 rfl ?_
    refine r_iload_n (pc := 103) 2 d_X12_wordsOf_103 rfl rfl ?_
    refine r_ishl (pc := 104) d_X12_wordsOf_104 ?_
    refine r_goto (pc := 105) 109 d_X12_wordsOf_105 (by decide) ?_
    refine r_ior (pc := 109) d_X12_wordsOf_109 ?_
    refine r_leti (f := (oP Sh D)) (fun x7 => ?_)
    refine r_istore_n (pc := 110) (ls' := [(1, .int x7), (0, .ref 102), (2, .int v2), (3, .int v3)]) d_X12_wordsOf_110 rfl (Nat.le_of_ble_eq_true rfl) rfl ?_
    refine r_iinc (pc := 111) ((v2 + (1 : Int32))) 2 (ls' := [(2, .int (v2 + (1 : Int32))), (1, .int x7), (0, .ref 102), (3, .int v3)]) d_X12_wordsOf_111 rfl rfl (Nat.le_of_ble_eq_true rfl) rfl ?_
    refine r_goto (pc := 114) 4 d_X12_wordsOf_114 (by decide) ?_
    refine r_pick [2, 1, 0] (ls' := [(0, .ref 102), (1, .int x7), (2, .int (v2 + (1 : Int32)))]) rfl ?_
    exact hk4 x7 (v2 + (1 : Int32)) 
theorem s_X12_wordsOf_34 {X : zX} {Sh : zSh} {d : Nat} (hst : (zl X).stackTraces = false) (h0 : zSh0 Sh) (hd : 2 ≤ d) (D : zD) (k4 : Int32 → Int32 → Option Int32) (hk4 : ∀ (v1 : Int32) (v2 : Int32) , Rn X m_X12_wordsOf (d + 1) 4 [(0, .ref 102), (1, .int v1), (2, .int v2)] [] (Sh, D) ((oP Sh D) (k4 v1 v2))) : ∀ (n : Nat) (v1 : Int32) (v2 : Int32) (v3 : Int32) (v4 : Int32) , Rn X m_X12_wordsOf (d + 1) 34 [(0, .ref 102), (1, .int v1), (2, .int v2), (3, .int v3), (4, .int v4)] [] (Sh, D) ((oP Sh D) (fn_X12_wordsOf_34 D k4 n v1 v2 v3 v4)) := by
  intro n
  induction n with
  | zero => intro v1 v2 v3 v4; exact Rn_none rfl
  | succ n hk34 =>
    intro v1 v2 v3 v4
    rw [fn_X12_wordsOf_34]
    refine r_iload (pc := 34) 4 d_X12_wordsOf_34 rfl ?_
    refine r_aload_n (pc := 36) 0 d_X12_wordsOf_36 rfl rfl ?_
    refine q_gI (pc := 37) g_X12_233 (K_102 h0) rfl d_X12_wordsOf_37 ?_
    refine r_icmp_ge (f := (oP Sh D)) (pc := 40) 97 d_X12_wordsOf_40 (by decide) (fun c4 => ?_) (fun c4 => ?_)
    · refine r_pick [0, 1, 2, 3] (ls' := [(0, .ref 102), (1, .int v1), (2, .int v2), (3, .int v3)]) rfl ?_
      exact s_X12_wordsOf_97 hst h0 hd D k4 hk4 v1 v2 v3
    · refine r_iload_n (pc := 43) 3 d_X12_wordsOf_43 rfl rfl ?_
      refine r_if_eq (f := (oP Sh D)) (pc := 44) 97 d_X12_wordsOf_44 (by decide) (fun c8 => ?_) (fun c8 => ?_)
      · refine r_pick [0, 1, 2, 3] (ls' := [(0, .ref 102), (1, .int v1), (2, .int v2), (3, .int v3)]) rfl ?_
        exact s_X12_wordsOf_97 hst h0 hd D k4 hk4 v1 v2 v3
      · refine r_aload_n (pc := 47) 0 d_X12_wordsOf_47 rfl rfl ?_
        refine r_aload_n (pc := 48) 0 d_X12_wordsOf_48 rfl rfl ?_
        refine r_getR (pc := 49) g_X12_64 (K_102 h0) rfl (R_102_39 h0) d_X12_wordsOf_49 ?_
        refine r_iload (pc := 52) 4 d_X12_wordsOf_52 rfl ?_
        refine r_ck (f := (oP Sh D)) rfl (fun hc9 => ?_)
        refine q_aald (pc := 54) (j := v4.toNatClampNeg) (K_162 h0) (Or.inl ⟨rfl, rfl⟩) hc9 rfl (RW_162 h0 _ (z_lt hc9)) d_X12_wordsOf_54 ?_
        refine r_iconst (pc := 55) (0 : Int32) d_X12_wordsOf_55 rfl ?_
        refine q_iald (pc := 56) (j := 0) (RK_162 h0 _ (z_lt hc9)) (by unfold vp_in; decide) rfl d_X12_wordsOf_56 ?_
        refine r_aload_n (pc := 57) 0 d_X12_wordsOf_57 rfl rfl ?_
        refine r_getR (pc := 58) g_X12_64 (K_102 h0) rfl (R_102_39 h0) d_X12_wordsOf_58 ?_
        refine r_iload (pc := 61) 4 d_X12_wordsOf_61 rfl ?_
        refine r_ck (f := (oP Sh D)) rfl (fun hc10 => ?_)
        refine q_aald (pc := 63) (j := v4.toNatClampNeg) (K_162 h0) (Or.inl ⟨rfl, rfl⟩) hc10 rfl (RW_162 h0 _ (z_lt hc10)) d_X12_wordsOf_63 ?_
        refine r_iconst (pc := 64) (1 : Int32) d_X12_wordsOf_64 rfl ?_
        refine q_iald (pc := 65) (j := 1) (RK_162 h0 _ (z_lt hc10)) (by unfold vp_in; decide) rfl d_X12_wordsOf_65 ?_
        refine q_cP (f := (oP Sh D)) (av := [.ref 102, .int (gI D (163 + v4.toNatClampNeg) 0), .int (gI D (163 + v4.toNatClampNeg) 1)]) (st := []) (z_runV ck_X12_mayBe rfl ml_X12_323 ci_X12_mayBe cv_X12_mayBe (K_102 h0) (ci := 12) rfl rfl (Nat.le_of_ble_eq_true rfl) d_X12_wordsOf_66) (s_X12_mayBe hst h0 (by omega)) kp_P (fun x11 _ => ?_)
        refine r_aload_n (pc := 69) 0 d_X12_wordsOf_69 rfl rfl ?_
        refine r_getR (pc := 70) g_X12_46 (K_102 h0) rfl (R_102_25 h0) d_X12_wordsOf_70 ?_
        refine r_iload_n (pc := 73) 2 d_X12_wordsOf_73 rfl rfl ?_
        refine r_ck (f := (oP Sh D)) rfl (fun hc12 => ?_)
        refine q_aald (pc := 74) (j := v2.toNatClampNeg) (K_119 h0) (Or.inl ⟨rfl, rfl⟩) hc12 rfl (RW_119 h0 _ (z_lt hc12)) d_X12_wordsOf_74 ?_
        refine r_iload (pc := 75) 4 d_X12_wordsOf_75 rfl ?_
        refine r_ck (f := (oP Sh D)) rfl (fun hc13 => ?_)
        refine q_iald (pc := 77) (j := v4.toNatClampNeg) (RK_119 h0 _ (z_lt hc12)) hc13 rfl d_X12_wordsOf_77 ?_
        refine r_ishr (pc := 78) d_X12_wordsOf_78 ?_
        refine r_iconst (pc := 79) (1 : Int32) d_X12_wordsOf_79 rfl ?_
        refine r_iand (pc := 80) d_X12_wordsOf_80 ?_
        refine r_iconst (pc := 81) (1 : Int32) d_X12_wordsOf_81 rfl ?_
        refine r_icmp_ne (f := (oP Sh D)) (pc := 82) 89 d_X12_wordsOf_82 (by decide) (fun c14 => ?_) (fun c14 => ?_)
        · refine r_iconst (pc := 89) (0 : Int32) d_X12_wordsOf_89 rfl ?_
          refine r_istore_n (pc := 90) (ls' := [(3, .int (0 : Int32)), (0, .ref 102), (1, .int v1), (2, .int v2), (4, .int v4)]) d_X12_wordsOf_90 rfl (Nat.le_of_ble_eq_true rfl) rfl ?_
          refine r_iinc (pc := 91) ((v4 + (1 : Int32))) 4 (ls' := [(4, .int (v4 + (1 : Int32))), (3, .int (0 : Int32)), (0, .ref 102), (1, .int v1), (2, .int v2)]) d_X12_wordsOf_91 rfl rfl (Nat.le_of_ble_eq_true rfl) rfl ?_
          refine r_goto (pc := 94) 34 d_X12_wordsOf_94 (by decide) ?_
          refine r_pick [2, 3, 4, 1, 0] (ls' := [(0, .ref 102), (1, .int v1), (2, .int v2), (3, .int (0 : Int32)), (4, .int (v4 + (1 : Int32)))]) rfl ?_
          exact hk34 v1 v2 (0 : Int32) (v4 + (1 : Int32)) 
        · refine r_iconst (pc := 85) (1 : Int32) d_X12_wordsOf_85 rfl ?_
          refine r_goto (pc := 86) 90 d_X12_wordsOf_86 (by decide) ?_
          refine r_istore_n (pc := 90) (ls' := [(3, .int (1 : Int32)), (0, .ref 102), (1, .int v1), (2, .int v2), (4, .int v4)]) d_X12_wordsOf_90 rfl (Nat.le_of_ble_eq_true rfl) rfl ?_
          refine r_iinc (pc := 91) ((v4 + (1 : Int32))) 4 (ls' := [(4, .int (v4 + (1 : Int32))), (3, .int (1 : Int32)), (0, .ref 102), (1, .int v1), (2, .int v2)]) d_X12_wordsOf_91 rfl rfl (Nat.le_of_ble_eq_true rfl) rfl ?_
          refine r_goto (pc := 94) 34 d_X12_wordsOf_94 (by decide) ?_
          refine r_pick [2, 3, 4, 1, 0] (ls' := [(0, .ref 102), (1, .int v1), (2, .int v2), (3, .int (1 : Int32)), (4, .int (v4 + (1 : Int32)))]) rfl ?_
          exact hk34 v1 v2 (1 : Int32) (v4 + (1 : Int32)) 
theorem s_X12_wordsOf_4 {X : zX} {Sh : zSh} {d : Nat} (hst : (zl X).stackTraces = false) (h0 : zSh0 Sh) (hd : 2 ≤ d) (D : zD) : ∀ (n : Nat) (v1 : Int32) (v2 : Int32) , Rn X m_X12_wordsOf (d + 1) 4 [(0, .ref 102), (1, .int v1), (2, .int v2)] [] (Sh, D) ((oP Sh D) (fn_X12_wordsOf_4 D n v1 v2)) := by
  intro n
  induction n with
  | zero => intro v1 v2; exact Rn_none rfl
  | succ n hk4 =>
    intro v1 v2
    rw [fn_X12_wordsOf_4]
    refine r_iload_n (pc := 4) 2 d_X12_wordsOf_4 rfl rfl ?_
    refine r_aload_n (pc := 5) 0 d_X12_wordsOf_5 rfl rfl ?_
    refine q_gI (pc := 6) g_X12_227 (K_102 h0) rfl d_X12_wordsOf_6 ?_
    refine r_icmp_ge (f := (oP Sh D)) (pc := 9) 117 d_X12_wordsOf_9 (by decide) (fun c1 => ?_) (fun c1 => ?_)
    · refine r_iload_n (pc := 117) 1 d_X12_wordsOf_117 rfl rfl ?_
      exact r_iret (pc := 118) rfl d_X12_wordsOf_118
    · refine r_aload_n (pc := 12) 0 d_X12_wordsOf_12 rfl rfl ?_
      refine r_getR (pc := 13) g_X12_38 (K_102 h0) rfl (R_102_23 h0) d_X12_wordsOf_13 ?_
      refine r_iload_n (pc := 16) 2 d_X12_wordsOf_16 rfl rfl ?_
      refine r_ck (f := (oP Sh D)) rfl (fun hc2 => ?_)
      refine q_iald (pc := 17) (j := v2.toNatClampNeg) (K_109 h0) hc2 rfl d_X12_wordsOf_17 ?_
      refine r_aload_n (pc := 18) 0 d_X12_wordsOf_18 rfl rfl ?_
      refine q_gI (pc := 19) g_X12_233 (K_102 h0) rfl d_X12_wordsOf_19 ?_
      refine r_icmp_ne (f := (oP Sh D)) (pc := 22) 29 d_X12_wordsOf_22 (by decide) (fun c3 => ?_) (fun c3 => ?_)
      · refine r_iconst (pc := 29) (0 : Int32) d_X12_wordsOf_29 rfl ?_
        refine r_istore_n (pc := 30) (ls' := [(3, .int (0 : Int32)), (0, .ref 102), (1, .int v1), (2, .int v2)]) d_X12_wordsOf_30 rfl (Nat.le_of_ble_eq_true rfl) rfl ?_
        refine r_iconst (pc := 31) (0 : Int32) d_X12_wordsOf_31 rfl ?_
        refine r_istore (pc := 32) (ls' := [(4, .int (0 : Int32)), (3, .int (0 : Int32)), (0, .ref 102), (1, .int v1), (2, .int v2)]) d_X12_wordsOf_32 (Nat.le_of_ble_eq_true rfl) rfl ?_
        refine r_pick [2, 3, 4, 1, 0] (ls' := [(0, .ref 102), (1, .int v1), (2, .int v2), (3, .int (0 : Int32)), (4, .int (0 : Int32))]) rfl ?_
        exact s_X12_wordsOf_34 hst h0 hd D (fn_X12_wordsOf_4 D n) hk4 zFU  v1 v2 (0 : Int32) (0 : Int32)
      · refine r_iconst (pc := 25) (1 : Int32) d_X12_wordsOf_25 rfl ?_
        refine r_goto (pc := 26) 30 d_X12_wordsOf_26 (by decide) ?_
        refine r_istore_n (pc := 30) (ls' := [(3, .int (1 : Int32)), (0, .ref 102), (1, .int v1), (2, .int v2)]) d_X12_wordsOf_30 rfl (Nat.le_of_ble_eq_true rfl) rfl ?_
        refine r_iconst (pc := 31) (0 : Int32) d_X12_wordsOf_31 rfl ?_
        refine r_istore (pc := 32) (ls' := [(4, .int (0 : Int32)), (3, .int (1 : Int32)), (0, .ref 102), (1, .int v1), (2, .int v2)]) d_X12_wordsOf_32 (Nat.le_of_ble_eq_true rfl) rfl ?_
        refine r_pick [2, 3, 4, 1, 0] (ls' := [(0, .ref 102), (1, .int v1), (2, .int v2), (3, .int (1 : Int32)), (4, .int (0 : Int32))]) rfl ?_
        exact s_X12_wordsOf_34 hst h0 hd D (fn_X12_wordsOf_4 D n) hk4 zFU  v1 v2 (1 : Int32) (0 : Int32)
theorem s_X12_wordsOf {X : zX} {Sh : zSh} {d : Nat} (hst : (zl X).stackTraces = false) (h0 : zSh0 Sh) (hd : 3 ≤ d)  {D : zD} : Sd X m_X12_wordsOf d [.ref 102] (Sh, D) ((oP Sh D) (fn_X12_wordsOf D)) := by
  obtain ⟨d, rfl⟩ : ∃ e, d = e + 1 := ⟨d - 1, by omega⟩
  replace hd : 2 ≤ d := by omega
  refine z_body ck_X12_wordsOf rfl (Nat.le_of_ble_eq_true rfl) rfl hst ?_
  rw [fn_X12_wordsOf]
  show Rn X m_X12_wordsOf (d + 1) 0 [(0, .ref 102)] [] (Sh, D) _
  refine r_iconst (pc := 0) (0 : Int32) d_X12_wordsOf_0 rfl ?_
  refine r_istore_n (pc := 1) (ls' := [(1, .int (0 : Int32)), (0, .ref 102)]) d_X12_wordsOf_1 rfl (Nat.le_of_ble_eq_true rfl) rfl ?_
  refine r_iconst (pc := 2) (0 : Int32) d_X12_wordsOf_2 rfl ?_
  refine r_istore_n (pc := 3) (ls' := [(2, .int (0 : Int32)), (1, .int (0 : Int32)), (0, .ref 102)]) d_X12_wordsOf_3 rfl (Nat.le_of_ble_eq_true rfl) rfl ?_
  refine r_pick [2, 1, 0] (ls' := [(0, .ref 102), (1, .int (0 : Int32)), (2, .int (0 : Int32))]) rfl ?_
  exact s_X12_wordsOf_4 hst h0 hd D zFU  (0 : Int32) (0 : Int32)
/-! CoveredSignsModel.words -/
theorem d_X12_words_0 : decode (yB m_X12_words) 0 = .ok (.aload_n 0, 1) := by decide +kernel
theorem d_X12_words_1 : decode (yB m_X12_words) 1 = .ok (.iconst 0, 1) := by decide +kernel
theorem d_X12_words_2 : decode (yB m_X12_words) 2 = .ok (.putfield 113, 3) := by decide +kernel
theorem d_X12_words_5 : decode (yB m_X12_words) 5 = .ok (.aload_n 0, 1) := by decide +kernel
theorem d_X12_words_6 : decode (yB m_X12_words) 6 = .ok (.invokevirtual 329, 3) := by decide +kernel
theorem d_X12_words_9 : decode (yB m_X12_words) 9 = .ok (.ireturn, 1) := by decide +kernel
def fn_X12_words (D : zD) : Option (Int32 × zD) := zlet (sI D 102 0 (0 : Int32)) fun D1 => (fn_X12_wordsOf D1).bind fun x2 => (some (x2, D1))
theorem s_X12_words {X : zX} {Sh : zSh} {d : Nat} (hst : (zl X).stackTraces = false) (h0 : zSh0 Sh) (hd : 4 ≤ d)  {D : zD} : Sd X m_X12_words d [.ref 102] (Sh, D) ((oI Sh) (fn_X12_words D)) := by
  obtain ⟨d, rfl⟩ : ∃ e, d = e + 1 := ⟨d - 1, by omega⟩
  replace hd : 3 ≤ d := by omega
  refine z_body ck_X12_words rfl (Nat.le_of_ble_eq_true rfl) rfl hst ?_
  rw [fn_X12_words]
  show Rn X m_X12_words (d + 1) 0 [(0, .ref 102)] [] (Sh, D) _
  refine r_aload_n (pc := 0) 0 d_X12_words_0 rfl rfl ?_
  refine r_iconst (pc := 1) (0 : Int32) d_X12_words_1 rfl ?_
  refine r_putI (pc := 2) p_X12_113 (K_102 h0) rfl (Or.inl rfl) d_X12_words_2 ?_
  refine r_letD (f := (oI Sh)) (fun D1 => ?_)
  refine r_aload_n (pc := 5) 0 d_X12_words_5 rfl rfl ?_
  refine q_cP (f := (oI Sh)) (av := [.ref 102]) (st := []) (z_runV ck_X12_wordsOf rfl ml_X12_329 ci_X12_wordsOf cv_X12_wordsOf (K_102 h0) (ci := 12) rfl rfl (Nat.le_of_ble_eq_true rfl) d_X12_words_6) (s_X12_wordsOf hst h0 (by omega)) kp_I (fun x2 _ => ?_)
  exact r_iret (pc := 9) rfl d_X12_words_9
/-! CoveredSignsModel.sure -/
theorem d_X12_sure_0 : decode (yB m_X12_sure) 0 = .ok (.aload_n 0, 1) := by decide +kernel
theorem d_X12_sure_1 : decode (yB m_X12_sure) 1 = .ok (.iconst 0, 1) := by decide +kernel
theorem d_X12_sure_2 : decode (yB m_X12_sure) 2 = .ok (.putfield 113, 3) := by decide +kernel
theorem d_X12_sure_5 : decode (yB m_X12_sure) 5 = .ok (.aload_n 0, 1) := by decide +kernel
theorem d_X12_sure_6 : decode (yB m_X12_sure) 6 = .ok (.invokevirtual 329, 3) := by decide +kernel
theorem d_X12_sure_9 : decode (yB m_X12_sure) 9 = .ok (.istore_n 2, 1) := by decide +kernel
theorem d_X12_sure_10 : decode (yB m_X12_sure) 10 = .ok (.iconst 0, 1) := by decide +kernel
theorem d_X12_sure_11 : decode (yB m_X12_sure) 11 = .ok (.istore_n 3, 1) := by decide +kernel
theorem d_X12_sure_12 : decode (yB m_X12_sure) 12 = .ok (.iload_n 1, 1) := by decide +kernel
theorem d_X12_sure_13 : decode (yB m_X12_sure) 13 = .ok (.iconst 0, 1) := by decide +kernel
theorem d_X12_sure_14 : decode (yB m_X12_sure) 14 = .ok (.aload_n 0, 1) := by decide +kernel
theorem d_X12_sure_15 : decode (yB m_X12_sure) 15 = .ok (.getfield 233, 3) := by decide +kernel
theorem d_X12_sure_18 : decode (yB m_X12_sure) 18 = .ok (.iconst 1, 1) := by decide +kernel
theorem d_X12_sure_19 : decode (yB m_X12_sure) 19 = .ok (.isub, 1) := by decide +kernel
theorem d_X12_sure_20 : decode (yB m_X12_sure) 20 = .ok (.invokestatic 147, 3) := by decide +kernel
theorem d_X12_sure_23 : decode (yB m_X12_sure) 23 = .ok (.ifCond .ne 5, 3) := by decide +kernel
theorem d_X12_sure_26 : decode (yB m_X12_sure) 26 = .ok (.iconst (-1), 1) := by decide +kernel
theorem d_X12_sure_27 : decode (yB m_X12_sure) 27 = .ok (.ireturn, 1) := by decide +kernel
theorem d_X12_sure_28 : decode (yB m_X12_sure) 28 = .ok (.iconst 0, 1) := by decide +kernel
theorem d_X12_sure_29 : decode (yB m_X12_sure) 29 = .ok (.istore 4, 2) := by decide +kernel
theorem d_X12_sure_31 : decode (yB m_X12_sure) 31 = .ok (.iload 4, 2) := by decide +kernel
theorem d_X12_sure_33 : decode (yB m_X12_sure) 33 = .ok (.aload_n 0, 1) := by decide +kernel
theorem d_X12_sure_34 : decode (yB m_X12_sure) 34 = .ok (.getfield 227, 3) := by decide +kernel
theorem d_X12_sure_37 : decode (yB m_X12_sure) 37 = .ok (.if_icmp .ge 37, 3) := by decide +kernel
theorem d_X12_sure_40 : decode (yB m_X12_sure) 40 = .ok (.iload_n 3, 1) := by decide +kernel
theorem d_X12_sure_41 : decode (yB m_X12_sure) 41 = .ok (.iload_n 2, 1) := by decide +kernel
theorem d_X12_sure_42 : decode (yB m_X12_sure) 42 = .ok (.iload 4, 2) := by decide +kernel
theorem d_X12_sure_44 : decode (yB m_X12_sure) 44 = .ok (.ishr, 1) := by decide +kernel
theorem d_X12_sure_45 : decode (yB m_X12_sure) 45 = .ok (.iconst 1, 1) := by decide +kernel
theorem d_X12_sure_46 : decode (yB m_X12_sure) 46 = .ok (.iand, 1) := by decide +kernel
theorem d_X12_sure_47 : decode (yB m_X12_sure) 47 = .ok (.iconst 1, 1) := by decide +kernel
theorem d_X12_sure_48 : decode (yB m_X12_sure) 48 = .ok (.if_icmp .ne 17, 3) := by decide +kernel
theorem d_X12_sure_51 : decode (yB m_X12_sure) 51 = .ok (.iconst 1, 1) := by decide +kernel
theorem d_X12_sure_52 : decode (yB m_X12_sure) 52 = .ok (.aload_n 0, 1) := by decide +kernel
theorem d_X12_sure_53 : decode (yB m_X12_sure) 53 = .ok (.getfield 46, 3) := by decide +kernel
theorem d_X12_sure_56 : decode (yB m_X12_sure) 56 = .ok (.iload 4, 2) := by decide +kernel
theorem d_X12_sure_58 : decode (yB m_X12_sure) 58 = .ok (.aaload, 1) := by decide +kernel
theorem d_X12_sure_59 : decode (yB m_X12_sure) 59 = .ok (.iload_n 1, 1) := by decide +kernel
theorem d_X12_sure_60 : decode (yB m_X12_sure) 60 = .ok (.iaload, 1) := by decide +kernel
theorem d_X12_sure_61 : decode (yB m_X12_sure) 61 = .ok (.ishl, 1) := by decide +kernel
theorem d_X12_sure_62 : decode (yB m_X12_sure) 62 = .ok (.goto 4, 3) := by decide +kernel
theorem d_X12_sure_65 : decode (yB m_X12_sure) 65 = .ok (.iconst 0, 1) := by decide +kernel
theorem d_X12_sure_66 : decode (yB m_X12_sure) 66 = .ok (.ior, 1) := by decide +kernel
theorem d_X12_sure_67 : decode (yB m_X12_sure) 67 = .ok (.istore_n 3, 1) := by decide +kernel
theorem d_X12_sure_68 : decode (yB m_X12_sure) 68 = .ok (.iinc 4 1, 3) := by decide +kernel
theorem d_X12_sure_71 : decode (yB m_X12_sure) 71 = .ok (.goto (-40), 3) := by decide +kernel
theorem d_X12_sure_74 : decode (yB m_X12_sure) 74 = .ok (.aload_n 0, 1) := by decide +kernel
theorem d_X12_sure_75 : decode (yB m_X12_sure) 75 = .ok (.iload_n 3, 1) := by decide +kernel
theorem d_X12_sure_76 : decode (yB m_X12_sure) 76 = .ok (.invokevirtual 326, 3) := by decide +kernel
theorem d_X12_sure_79 : decode (yB m_X12_sure) 79 = .ok (.ireturn, 1) := by decide +kernel
def fn_X12_sure_31 (v1 : Int32) : Nat → Int32 → Int32 → Int32 → zD → Option (Int32 × zD)
  | 0, _, _, _, _ => none
  | n + 1, v2, v3, v4, D => (if (gI D 102 17) ≤ v4 then ((fn_X12_only v3).bind fun x6 => (some (x6, D))) else ((if ((v2 >>> (v4 &&& 31)) &&& (1 : Int32)) = (1 : Int32) then (zck v4 8 <| zck v1 6 <| zlet (v3 ||| ((1 : Int32) <<< ((gI D (120 + v4.toNatClampNeg) v1.toNatClampNeg) &&& 31))) fun x11 => ((fn_X12_sure_31 v1 n) v2 x11 (v4 + (1 : Int32)) D)) else (zlet (v3 ||| (0 : Int32)) fun x8 => ((fn_X12_sure_31 v1 n) v2 x8 (v4 + (1 : Int32)) D)))))
def fn_X12_sure (v1 : Int32) (D : zD) : Option (Int32 × zD) := zlet (sI D 102 0 (0 : Int32)) fun D1 => (fn_X12_wordsOf D1).bind fun x2 => (fn_X12_in v1 (0 : Int32) ((gI D1 102 35) - (1 : Int32))).bind fun x3 => (if x3 = 0 then ((some ((-1 : Int32), D1))) else ((fn_X12_sure_31 v1 zFU x2 (0 : Int32) (0 : Int32) D1)))
theorem s_X12_sure_31 {X : zX} {Sh : zSh} {d : Nat} (hst : (zl X).stackTraces = false) (h0 : zSh0 Sh) (hd : 3 ≤ d) {v1 : Int32} : ∀ (n : Nat) (v2 : Int32) (v3 : Int32) (v4 : Int32) (D : zD) , Rn X m_X12_sure (d + 1) 31 [(0, .ref 102), (1, .int v1), (2, .int v2), (3, .int v3), (4, .int v4)] [] (Sh, D) ((oI Sh) (fn_X12_sure_31 v1 n v2 v3 v4 D)) := by
  intro n
  induction n with
  | zero => intro v2 v3 v4 D; exact Rn_none rfl
  | succ n hk31 =>
    intro v2 v3 v4 D
    rw [fn_X12_sure_31]
    refine r_iload (pc := 31) 4 d_X12_sure_31 rfl ?_
    refine r_aload_n (pc := 33) 0 d_X12_sure_33 rfl rfl ?_
    refine q_gI (pc := 34) g_X12_227 (K_102 h0) rfl d_X12_sure_34 ?_
    refine r_icmp_ge (f := (oI Sh)) (pc := 37) 74 d_X12_sure_37 (by decide) (fun c5 => ?_) (fun c5 => ?_)
    · refine r_aload_n (pc := 74) 0 d_X12_sure_74 rfl rfl ?_
      refine r_iload_n (pc := 75) 3 d_X12_sure_75 rfl rfl ?_
      refine q_cP (f := (oI Sh)) (av := [.ref 102, .int v3]) (st := []) (z_runV ck_X12_only rfl ml_X12_326 ci_X12_only cv_X12_only (K_102 h0) (ci := 12) rfl rfl (Nat.le_of_ble_eq_true rfl) d_X12_sure_76) (s_X12_only hst h0 (by omega)) kp_I (fun x6 _ => ?_)
      exact r_iret (pc := 79) rfl d_X12_sure_79
    · refine r_iload_n (pc := 40) 3 d_X12_sure_40 rfl rfl ?_
      refine r_iload_n (pc := 41) 2 d_X12_sure_41 rfl rfl ?_
      refine r_iload (pc := 42) 4 d_X12_sure_42 rfl ?_
      refine r_ishr (pc := 44) d_X12_sure_44 ?_
      refine r_iconst (pc := 45) (1 : Int32) d_X12_sure_45 rfl ?_
      refine r_iand (pc := 46) d_X12_sure_46 ?_
      refine r_iconst (pc := 47) (1 : Int32) d_X12_sure_47 rfl ?_
      refine r_icmp_ne (f := (oI Sh)) (pc := 48) 65 d_X12_sure_48 (by decide) (fun c7 => ?_) (fun c7 => ?_)
      · refine r_iconst (pc := 65) (0 : Int32) d_X12_sure_65 rfl ?_
        refine r_ior (pc := 66) d_X12_sure_66 ?_
        refine r_leti (f := (oI Sh)) (fun x8 => ?_)
        refine r_istore_n (pc := 67) (ls' := [(3, .int x8), (0, .ref 102), (1, .int v1), (2, .int v2), (4, .int v4)]) d_X12_sure_67 rfl (Nat.le_of_ble_eq_true rfl) rfl ?_
        refine r_iinc (pc := 68) ((v4 + (1 : Int32))) 4 (ls' := [(4, .int (v4 + (1 : Int32))), (3, .int x8), (0, .ref 102), (1, .int v1), (2, .int v2)]) d_X12_sure_68 rfl rfl (Nat.le_of_ble_eq_true rfl) rfl ?_
        refine r_goto (pc := 71) 31 d_X12_sure_71 (by decide) ?_
        refine r_pick [2, 3, 4, 1, 0] (ls' := [(0, .ref 102), (1, .int v1), (2, .int v2), (3, .int x8), (4, .int (v4 + (1 : Int32)))]) rfl ?_
        exact hk31 v2 x8 (v4 + (1 : Int32)) D 
      · refine r_iconst (pc := 51) (1 : Int32) d_X12_sure_51 rfl ?_
        refine r_aload_n (pc := 52) 0 d_X12_sure_52 rfl rfl ?_
        refine r_getR (pc := 53) g_X12_46 (K_102 h0) rfl (R_102_25 h0) d_X12_sure_53 ?_
        refine r_iload (pc := 56) 4 d_X12_sure_56 rfl ?_
        refine r_ck (f := (oI Sh)) rfl (fun hc9 => ?_)
        refine q_aald (pc := 58) (j := v4.toNatClampNeg) (K_119 h0) (Or.inl ⟨rfl, rfl⟩) hc9 rfl (RW_119 h0 _ (z_lt hc9)) d_X12_sure_58 ?_
        refine r_iload_n (pc := 59) 1 d_X12_sure_59 rfl rfl ?_
        refine r_ck (f := (oI Sh)) rfl (fun hc10 => ?_)
        refine q_iald (pc := 60) (j := v1.toNatClampNeg) (RK_119 h0 _ (z_lt hc9)) hc10 rfl d_X12_sure_60 ?_
        refine r_ishl (pc := 61) d_X12_sure_61 ?_
        refine r_goto (pc := 62) 66 d_X12_sure_62 (by decide) ?_
        refine r_ior (pc := 66) d_X12_sure_66 ?_
        refine r_leti (f := (oI Sh)) (fun x11 => ?_)
        refine r_istore_n (pc := 67) (ls' := [(3, .int x11), (0, .ref 102), (1, .int v1), (2, .int v2), (4, .int v4)]) d_X12_sure_67 rfl (Nat.le_of_ble_eq_true rfl) rfl ?_
        refine r_iinc (pc := 68) ((v4 + (1 : Int32))) 4 (ls' := [(4, .int (v4 + (1 : Int32))), (3, .int x11), (0, .ref 102), (1, .int v1), (2, .int v2)]) d_X12_sure_68 rfl rfl (Nat.le_of_ble_eq_true rfl) rfl ?_
        refine r_goto (pc := 71) 31 d_X12_sure_71 (by decide) ?_
        refine r_pick [2, 3, 4, 1, 0] (ls' := [(0, .ref 102), (1, .int v1), (2, .int v2), (3, .int x11), (4, .int (v4 + (1 : Int32)))]) rfl ?_
        exact hk31 v2 x11 (v4 + (1 : Int32)) D 
theorem s_X12_sure {X : zX} {Sh : zSh} {d : Nat} (hst : (zl X).stackTraces = false) (h0 : zSh0 Sh) (hd : 4 ≤ d) {v1 : Int32} {D : zD} : Sd X m_X12_sure d [.ref 102, .int v1] (Sh, D) ((oI Sh) (fn_X12_sure v1 D)) := by
  obtain ⟨d, rfl⟩ : ∃ e, d = e + 1 := ⟨d - 1, by omega⟩
  replace hd : 3 ≤ d := by omega
  refine z_body ck_X12_sure rfl (Nat.le_of_ble_eq_true rfl) rfl hst ?_
  rw [fn_X12_sure]
  show Rn X m_X12_sure (d + 1) 0 [(0, .ref 102), (1, .int v1)] [] (Sh, D) _
  refine r_aload_n (pc := 0) 0 d_X12_sure_0 rfl rfl ?_
  refine r_iconst (pc := 1) (0 : Int32) d_X12_sure_1 rfl ?_
  refine r_putI (pc := 2) p_X12_113 (K_102 h0) rfl (Or.inl rfl) d_X12_sure_2 ?_
  refine r_letD (f := (oI Sh)) (fun D1 => ?_)
  refine r_aload_n (pc := 5) 0 d_X12_sure_5 rfl rfl ?_
  refine q_cP (f := (oI Sh)) (av := [.ref 102]) (st := []) (z_runV ck_X12_wordsOf rfl ml_X12_329 ci_X12_wordsOf cv_X12_wordsOf (K_102 h0) (ci := 12) rfl rfl (Nat.le_of_ble_eq_true rfl) d_X12_sure_6) (s_X12_wordsOf hst h0 (by omega)) kp_I (fun x2 _ => ?_)
  refine r_istore_n (pc := 9) (ls' := [(2, .int x2), (0, .ref 102), (1, .int v1)]) d_X12_sure_9 rfl (Nat.le_of_ble_eq_true rfl) rfl ?_
  refine r_iconst (pc := 10) (0 : Int32) d_X12_sure_10 rfl ?_
  refine r_istore_n (pc := 11) (ls' := [(3, .int (0 : Int32)), (2, .int x2), (0, .ref 102), (1, .int v1)]) d_X12_sure_11 rfl (Nat.le_of_ble_eq_true rfl) rfl ?_
  refine r_iload_n (pc := 12) 3 d_X12_sure_12 rfl rfl ?_
  refine r_iconst (pc := 13) (0 : Int32) d_X12_sure_13 rfl ?_
  refine r_aload_n (pc := 14) 2 d_X12_sure_14 rfl rfl ?_
  refine q_gI (pc := 15) g_X12_233 (K_102 h0) rfl d_X12_sure_15 ?_
  refine r_iconst (pc := 18) (1 : Int32) d_X12_sure_18 rfl ?_
  refine r_isub (pc := 19) d_X12_sure_19 ?_
  refine q_cP (f := (oI Sh)) (av := [.int v1, .int (0 : Int32), .int ((gI D1 102 35) - (1 : Int32))]) (st := []) (z_runS ck_X12_in rfl ml_X12_147 cs_X12_in rfl (Nat.le_of_ble_eq_true rfl) d_X12_sure_20) (s_X12_in hst h0 (by omega)) kp_I (fun x3 _ => ?_)
  refine r_if_ne (f := (oI Sh)) (pc := 23) 28 d_X12_sure_23 (by decide) (fun c4 => ?_) (fun c4 => ?_)
  · refine r_iconst (pc := 28) (0 : Int32) d_X12_sure_28 rfl ?_
    refine r_istore (pc := 29) (ls' := [(4, .int (0 : Int32)), (3, .int (0 : Int32)), (2, .int x2), (0, .ref 102), (1, .int v1)]) d_X12_sure_29 (Nat.le_of_ble_eq_true rfl) rfl ?_
    refine r_pick [3, 4, 2, 1, 0] (ls' := [(0, .ref 102), (1, .int v1), (2, .int x2), (3, .int (0 : Int32)), (4, .int (0 : Int32))]) rfl ?_
    exact s_X12_sure_31 hst h0 hd zFU  x2 (0 : Int32) (0 : Int32) D1
  · refine r_iconst (pc := 26) (-1 : Int32) d_X12_sure_26 rfl ?_
    exact r_iret (pc := 27) rfl d_X12_sure_27
/-! CoveredSignsModel.tells -/
theorem d_X12_tells_0 : decode (yB m_X12_tells) 0 = .ok (.iconst 0, 1) := by decide +kernel
theorem d_X12_tells_1 : decode (yB m_X12_tells) 1 = .ok (.istore_n 3, 1) := by decide +kernel
theorem d_X12_tells_2 : decode (yB m_X12_tells) 2 = .ok (.iload_n 3, 1) := by decide +kernel
theorem d_X12_tells_3 : decode (yB m_X12_tells) 3 = .ok (.aload_n 0, 1) := by decide +kernel
theorem d_X12_tells_4 : decode (yB m_X12_tells) 4 = .ok (.getfield 224, 3) := by decide +kernel
theorem d_X12_tells_7 : decode (yB m_X12_tells) 7 = .ok (.if_icmp .ge 43, 3) := by decide +kernel
theorem d_X12_tells_10 : decode (yB m_X12_tells) 10 = .ok (.iload_n 3, 1) := by decide +kernel
theorem d_X12_tells_11 : decode (yB m_X12_tells) 11 = .ok (.iload_n 1, 1) := by decide +kernel
theorem d_X12_tells_12 : decode (yB m_X12_tells) 12 = .ok (.if_icmp .eq 32, 3) := by decide +kernel
theorem d_X12_tells_15 : decode (yB m_X12_tells) 15 = .ok (.aload_n 0, 1) := by decide +kernel
theorem d_X12_tells_16 : decode (yB m_X12_tells) 16 = .ok (.getfield 26, 3) := by decide +kernel
theorem d_X12_tells_19 : decode (yB m_X12_tells) 19 = .ok (.iload_n 1, 1) := by decide +kernel
theorem d_X12_tells_20 : decode (yB m_X12_tells) 20 = .ok (.iaload, 1) := by decide +kernel
theorem d_X12_tells_21 : decode (yB m_X12_tells) 21 = .ok (.aload_n 0, 1) := by decide +kernel
theorem d_X12_tells_22 : decode (yB m_X12_tells) 22 = .ok (.getfield 26, 3) := by decide +kernel
theorem d_X12_tells_25 : decode (yB m_X12_tells) 25 = .ok (.iload_n 3, 1) := by decide +kernel
theorem d_X12_tells_26 : decode (yB m_X12_tells) 26 = .ok (.iaload, 1) := by decide +kernel
theorem d_X12_tells_27 : decode (yB m_X12_tells) 27 = .ok (.ixor, 1) := by decide +kernel
theorem d_X12_tells_28 : decode (yB m_X12_tells) 28 = .ok (.iload_n 2, 1) := by decide +kernel
theorem d_X12_tells_29 : decode (yB m_X12_tells) 29 = .ok (.iand, 1) := by decide +kernel
theorem d_X12_tells_30 : decode (yB m_X12_tells) 30 = .ok (.invokestatic 293, 3) := by decide +kernel
theorem d_X12_tells_33 : decode (yB m_X12_tells) 33 = .ok (.iconst 2, 1) := by decide +kernel
theorem d_X12_tells_34 : decode (yB m_X12_tells) 34 = .ok (.aload_n 0, 1) := by decide +kernel
theorem d_X12_tells_35 : decode (yB m_X12_tells) 35 = .ok (.getfield 230, 3) := by decide +kernel
theorem d_X12_tells_38 : decode (yB m_X12_tells) 38 = .ok (.imul, 1) := by decide +kernel
theorem d_X12_tells_39 : decode (yB m_X12_tells) 39 = .ok (.if_icmp .gt 5, 3) := by decide +kernel
theorem d_X12_tells_42 : decode (yB m_X12_tells) 42 = .ok (.iconst 0, 1) := by decide +kernel
theorem d_X12_tells_43 : decode (yB m_X12_tells) 43 = .ok (.ireturn, 1) := by decide +kernel
theorem d_X12_tells_44 : decode (yB m_X12_tells) 44 = .ok (.iinc 3 1, 3) := by decide +kernel
theorem d_X12_tells_47 : decode (yB m_X12_tells) 47 = .ok (.goto (-45), 3) := by decide +kernel
theorem d_X12_tells_50 : decode (yB m_X12_tells) 50 = .ok (.iconst 1, 1) := by decide +kernel
theorem d_X12_tells_51 : decode (yB m_X12_tells) 51 = .ok (.ireturn, 1) := by decide +kernel
def fn_X12_tells_2 (v1 : Int32) (v2 : Int32) (D : zD) : Nat → Int32 → Option Int32
  | 0, _ => none
  | n + 1, v3 => (if (gI D 102 16) ≤ v3 then ((some (1 : Int32))) else ((if v3 = v1 then (((fn_X12_tells_2 v1 v2 D n) (v3 + (1 : Int32)))) else (zck v1 12 <| zck v3 12 <| (fn_X12_ones (((gI D 105 v1.toNatClampNeg) ^^^ (gI D 105 v3.toNatClampNeg)) &&& v2)).bind fun x5 => (if ((2 : Int32) * (gI D 102 34)) < x5 then (((fn_X12_tells_2 v1 v2 D n) (v3 + (1 : Int32)))) else ((some (0 : Int32))))))))
def fn_X12_tells (v1 : Int32) (v2 : Int32) (D : zD) : Option Int32 := (fn_X12_tells_2 v1 v2 D zFU (0 : Int32))
theorem s_X12_tells_2 {X : zX} {Sh : zSh} {d : Nat} (hst : (zl X).stackTraces = false) (h0 : zSh0 Sh) (hd : 1 ≤ d) {v1 : Int32} {v2 : Int32} (D : zD) : ∀ (n : Nat) (v3 : Int32) , Rn X m_X12_tells (d + 1) 2 [(0, .ref 102), (1, .int v1), (2, .int v2), (3, .int v3)] [] (Sh, D) ((oP Sh D) (fn_X12_tells_2 v1 v2 D n v3)) := by
  intro n
  induction n with
  | zero => intro v3; exact Rn_none rfl
  | succ n hk2 =>
    intro v3
    rw [fn_X12_tells_2]
    refine r_iload_n (pc := 2) 3 d_X12_tells_2 rfl rfl ?_
    refine r_aload_n (pc := 3) 0 d_X12_tells_3 rfl rfl ?_
    refine q_gI (pc := 4) g_X12_224 (K_102 h0) rfl d_X12_tells_4 ?_
    refine r_icmp_ge (f := (oP Sh D)) (pc := 7) 50 d_X12_tells_7 (by decide) (fun c1 => ?_) (fun c1 => ?_)
    · refine r_iconst (pc := 50) (1 : Int32) d_X12_tells_50 rfl ?_
      exact r_zret (pc := 51) rfl (by decide) d_X12_tells_51
    · refine r_iload_n (pc := 10) 3 d_X12_tells_10 rfl rfl ?_
      refine r_iload_n (pc := 11) 1 d_X12_tells_11 rfl rfl ?_
      refine r_icmp_eq (f := (oP Sh D)) (pc := 12) 44 d_X12_tells_12 (by decide) (fun c2 => ?_) (fun c2 => ?_)
      · refine r_iinc (pc := 44) ((v3 + (1 : Int32))) 3 (ls' := [(3, .int (v3 + (1 : Int32))), (0, .ref 102), (1, .int v1), (2, .int v2)]) d_X12_tells_44 rfl rfl (Nat.le_of_ble_eq_true rfl) rfl ?_
        refine r_goto (pc := 47) 2 d_X12_tells_47 (by decide) ?_
        refine r_pick [1, 2, 3, 0] (ls' := [(0, .ref 102), (1, .int v1), (2, .int v2), (3, .int (v3 + (1 : Int32)))]) rfl ?_
        exact hk2 (v3 + (1 : Int32)) 
      · refine r_aload_n (pc := 15) 0 d_X12_tells_15 rfl rfl ?_
        refine r_getR (pc := 16) g_X12_26 (K_102 h0) rfl (R_102_19 h0) d_X12_tells_16 ?_
        refine r_iload_n (pc := 19) 1 d_X12_tells_19 rfl rfl ?_
        refine r_ck (f := (oP Sh D)) rfl (fun hc3 => ?_)
        refine q_iald (pc := 20) (j := v1.toNatClampNeg) (K_105 h0) hc3 rfl d_X12_tells_20 ?_
        refine r_aload_n (pc := 21) 0 d_X12_tells_21 rfl rfl ?_
        refine r_getR (pc := 22) g_X12_26 (K_102 h0) rfl (R_102_19 h0) d_X12_tells_22 ?_
        refine r_iload_n (pc := 25) 3 d_X12_tells_25 rfl rfl ?_
        refine r_ck (f := (oP Sh D)) rfl (fun hc4 => ?_)
        refine q_iald (pc := 26) (j := v3.toNatClampNeg) (K_105 h0) hc4 rfl d_X12_tells_26 ?_
        refine r_ixor (pc := 27) d_X12_tells_27 ?_
        refine r_iload_n (pc := 28) 2 d_X12_tells_28 rfl rfl ?_
        refine r_iand (pc := 29) d_X12_tells_29 ?_
        refine q_cP (f := (oP Sh D)) (av := [.int (((gI D 105 v1.toNatClampNeg) ^^^ (gI D 105 v3.toNatClampNeg)) &&& v2)]) (st := []) (z_runS ck_X12_ones rfl ml_X12_293 cs_X12_ones rfl (Nat.le_of_ble_eq_true rfl) d_X12_tells_30) (s_X12_ones hst h0 (by omega)) kp_P (fun x5 _ => ?_)
        refine r_iconst (pc := 33) (2 : Int32) d_X12_tells_33 rfl ?_
        refine r_aload_n (pc := 34) 0 d_X12_tells_34 rfl rfl ?_
        refine q_gI (pc := 35) g_X12_230 (K_102 h0) rfl d_X12_tells_35 ?_
        refine r_imul (pc := 38) d_X12_tells_38 ?_
        refine r_icmp_gt (f := (oP Sh D)) (pc := 39) 44 d_X12_tells_39 (by decide) (fun c6 => ?_) (fun c6 => ?_)
        · refine r_iinc (pc := 44) ((v3 + (1 : Int32))) 3 (ls' := [(3, .int (v3 + (1 : Int32))), (0, .ref 102), (1, .int v1), (2, .int v2)]) d_X12_tells_44 rfl rfl (Nat.le_of_ble_eq_true rfl) rfl ?_
          refine r_goto (pc := 47) 2 d_X12_tells_47 (by decide) ?_
          refine r_pick [1, 2, 3, 0] (ls' := [(0, .ref 102), (1, .int v1), (2, .int v2), (3, .int (v3 + (1 : Int32)))]) rfl ?_
          exact hk2 (v3 + (1 : Int32)) 
        · refine r_iconst (pc := 42) (0 : Int32) d_X12_tells_42 rfl ?_
          exact r_zret (pc := 43) rfl (by decide) d_X12_tells_43
theorem s_X12_tells {X : zX} {Sh : zSh} {d : Nat} (hst : (zl X).stackTraces = false) (h0 : zSh0 Sh) (hd : 2 ≤ d) {v1 : Int32} {v2 : Int32} {D : zD} : Sd X m_X12_tells d [.ref 102, .int v1, .int v2] (Sh, D) ((oP Sh D) (fn_X12_tells v1 v2 D)) := by
  obtain ⟨d, rfl⟩ : ∃ e, d = e + 1 := ⟨d - 1, by omega⟩
  replace hd : 1 ≤ d := by omega
  refine z_body ck_X12_tells rfl (Nat.le_of_ble_eq_true rfl) rfl hst ?_
  rw [fn_X12_tells]
  show Rn X m_X12_tells (d + 1) 0 [(0, .ref 102), (1, .int v1), (2, .int v2)] [] (Sh, D) _
  refine r_iconst (pc := 0) (0 : Int32) d_X12_tells_0 rfl ?_
  refine r_istore_n (pc := 1) (ls' := [(3, .int (0 : Int32)), (0, .ref 102), (1, .int v1), (2, .int v2)]) d_X12_tells_1 rfl (Nat.le_of_ble_eq_true rfl) rfl ?_
  refine r_pick [1, 2, 3, 0] (ls' := [(0, .ref 102), (1, .int v1), (2, .int v2), (3, .int (0 : Int32))]) rfl ?_
  exact s_X12_tells_2 hst h0 hd D zFU  (0 : Int32)
/-! CoveredSignsModel.firstPart -/
theorem d_X12_firstPart_0 : decode (yB m_X12_firstPart) 0 = .ok (.iload_n 2, 1) := by decide +kernel
theorem d_X12_firstPart_1 : decode (yB m_X12_firstPart) 1 = .ok (.ifCond .ne 18, 3) := by decide +kernel
theorem d_X12_firstPart_4 : decode (yB m_X12_firstPart) 4 = .ok (.aload_n 0, 1) := by decide +kernel
theorem d_X12_firstPart_5 : decode (yB m_X12_firstPart) 5 = .ok (.iload_n 1, 1) := by decide +kernel
theorem d_X12_firstPart_6 : decode (yB m_X12_firstPart) 6 = .ok (.iconst 0, 1) := by decide +kernel
theorem d_X12_firstPart_7 : decode (yB m_X12_firstPart) 7 = .ok (.invokevirtual 335, 3) := by decide +kernel
theorem d_X12_firstPart_10 : decode (yB m_X12_firstPart) 10 = .ok (.ifCond .eq 7, 3) := by decide +kernel
theorem d_X12_firstPart_13 : decode (yB m_X12_firstPart) 13 = .ok (.iconst 0, 1) := by decide +kernel
theorem d_X12_firstPart_14 : decode (yB m_X12_firstPart) 14 = .ok (.goto 4, 3) := by decide +kernel
theorem d_X12_firstPart_17 : decode (yB m_X12_firstPart) 17 = .ok (.iconst (-1), 1) := by decide +kernel
theorem d_X12_firstPart_18 : decode (yB m_X12_firstPart) 18 = .ok (.ireturn, 1) := by decide +kernel
theorem d_X12_firstPart_19 : decode (yB m_X12_firstPart) 19 = .ok (.iconst 1, 1) := by decide +kernel
theorem d_X12_firstPart_20 : decode (yB m_X12_firstPart) 20 = .ok (.iload_n 2, 1) := by decide +kernel
theorem d_X12_firstPart_21 : decode (yB m_X12_firstPart) 21 = .ok (.ishl, 1) := by decide +kernel
theorem d_X12_firstPart_22 : decode (yB m_X12_firstPart) 22 = .ok (.iconst 1, 1) := by decide +kernel
theorem d_X12_firstPart_23 : decode (yB m_X12_firstPart) 23 = .ok (.isub, 1) := by decide +kernel
theorem d_X12_firstPart_24 : decode (yB m_X12_firstPart) 24 = .ok (.istore_n 3, 1) := by decide +kernel
theorem d_X12_firstPart_25 : decode (yB m_X12_firstPart) 25 = .ok (.iload_n 3, 1) := by decide +kernel
theorem d_X12_firstPart_26 : decode (yB m_X12_firstPart) 26 = .ok (.aload_n 0, 1) := by decide +kernel
theorem d_X12_firstPart_27 : decode (yB m_X12_firstPart) 27 = .ok (.invokevirtual 269, 3) := by decide +kernel
theorem d_X12_firstPart_30 : decode (yB m_X12_firstPart) 30 = .ok (.if_icmp .gt 46, 3) := by decide +kernel
theorem d_X12_firstPart_33 : decode (yB m_X12_firstPart) 33 = .ok (.iload_n 3, 1) := by decide +kernel
theorem d_X12_firstPart_34 : decode (yB m_X12_firstPart) 34 = .ok (.ifCond .le 42, 3) := by decide +kernel
theorem d_X12_firstPart_37 : decode (yB m_X12_firstPart) 37 = .ok (.aload_n 0, 1) := by decide +kernel
theorem d_X12_firstPart_38 : decode (yB m_X12_firstPart) 38 = .ok (.iload_n 1, 1) := by decide +kernel
theorem d_X12_firstPart_39 : decode (yB m_X12_firstPart) 39 = .ok (.iload_n 3, 1) := by decide +kernel
theorem d_X12_firstPart_40 : decode (yB m_X12_firstPart) 40 = .ok (.invokevirtual 335, 3) := by decide +kernel
theorem d_X12_firstPart_43 : decode (yB m_X12_firstPart) 43 = .ok (.ifCond .eq 5, 3) := by decide +kernel
theorem d_X12_firstPart_46 : decode (yB m_X12_firstPart) 46 = .ok (.iload_n 3, 1) := by decide +kernel
theorem d_X12_firstPart_47 : decode (yB m_X12_firstPart) 47 = .ok (.ireturn, 1) := by decide +kernel
theorem d_X12_firstPart_48 : decode (yB m_X12_firstPart) 48 = .ok (.iload_n 3, 1) := by decide +kernel
theorem d_X12_firstPart_49 : decode (yB m_X12_firstPart) 49 = .ok (.iload_n 3, 1) := by decide +kernel
theorem d_X12_firstPart_50 : decode (yB m_X12_firstPart) 50 = .ok (.ineg, 1) := by decide +kernel
theorem d_X12_firstPart_51 : decode (yB m_X12_firstPart) 51 = .ok (.iand, 1) := by decide +kernel
theorem d_X12_firstPart_52 : decode (yB m_X12_firstPart) 52 = .ok (.istore 4, 2) := by decide +kernel
theorem d_X12_firstPart_54 : decode (yB m_X12_firstPart) 54 = .ok (.iload_n 3, 1) := by decide +kernel
theorem d_X12_firstPart_55 : decode (yB m_X12_firstPart) 55 = .ok (.iload 4, 2) := by decide +kernel
theorem d_X12_firstPart_57 : decode (yB m_X12_firstPart) 57 = .ok (.iadd, 1) := by decide +kernel
theorem d_X12_firstPart_58 : decode (yB m_X12_firstPart) 58 = .ok (.istore 5, 2) := by decide +kernel
theorem d_X12_firstPart_60 : decode (yB m_X12_firstPart) 60 = .ok (.iload 5, 2) := by decide +kernel
theorem d_X12_firstPart_62 : decode (yB m_X12_firstPart) 62 = .ok (.iload_n 3, 1) := by decide +kernel
theorem d_X12_firstPart_63 : decode (yB m_X12_firstPart) 63 = .ok (.iload 5, 2) := by decide +kernel
theorem d_X12_firstPart_65 : decode (yB m_X12_firstPart) 65 = .ok (.ixor, 1) := by decide +kernel
theorem d_X12_firstPart_66 : decode (yB m_X12_firstPart) 66 = .ok (.iload 4, 2) := by decide +kernel
theorem d_X12_firstPart_68 : decode (yB m_X12_firstPart) 68 = .ok (.idiv, 1) := by decide +kernel
theorem d_X12_firstPart_69 : decode (yB m_X12_firstPart) 69 = .ok (.iconst 2, 1) := by decide +kernel
theorem d_X12_firstPart_70 : decode (yB m_X12_firstPart) 70 = .ok (.ishr, 1) := by decide +kernel
theorem d_X12_firstPart_71 : decode (yB m_X12_firstPart) 71 = .ok (.ior, 1) := by decide +kernel
theorem d_X12_firstPart_72 : decode (yB m_X12_firstPart) 72 = .ok (.istore_n 3, 1) := by decide +kernel
theorem d_X12_firstPart_73 : decode (yB m_X12_firstPart) 73 = .ok (.goto (-48), 3) := by decide +kernel
theorem d_X12_firstPart_76 : decode (yB m_X12_firstPart) 76 = .ok (.iconst (-1), 1) := by decide +kernel
theorem d_X12_firstPart_77 : decode (yB m_X12_firstPart) 77 = .ok (.ireturn, 1) := by decide +kernel
def fn_X12_firstPart_25 (v1 : Int32) (v2 : Int32) (D : zD) : Nat → Int32 → Option Int32
  | 0, _ => none
  | n + 1, v3 => (fn_X12_allCells D).bind fun x3 => (if x3 < v3 then ((some (-1 : Int32))) else ((if v3 ≤ 0 then ((some (-1 : Int32))) else ((fn_X12_tells v1 v3 D).bind fun x6 => (if x6 = 0 then (zlet (v3 &&& (-v3)) fun x8 => zlet (v3 + x8) fun x9 => zdv x8 <| zlet (x9 ||| (((v3 ^^^ x9) / x8) >>> ((2 : Int32) &&& 31))) fun x10 => ((fn_X12_firstPart_25 v1 v2 D n) x10)) else ((some v3)))))))
def fn_X12_firstPart (v1 : Int32) (v2 : Int32) (D : zD) : Option Int32 := (if v2 = 0 then ((fn_X12_tells v1 (0 : Int32) D).bind fun x11 => (if x11 = 0 then ((some (-1 : Int32))) else ((some (0 : Int32))))) else (zlet (((1 : Int32) <<< (v2 &&& 31)) - (1 : Int32)) fun x2 => (fn_X12_firstPart_25 v1 v2 D zFU x2)))
theorem s_X12_firstPart_25 {X : zX} {Sh : zSh} {d : Nat} (hst : (zl X).stackTraces = false) (h0 : zSh0 Sh) (hd : 2 ≤ d) {v1 : Int32} {v2 : Int32} (D : zD) : ∀ (n : Nat) (v3 : Int32) , Rn X m_X12_firstPart (d + 1) 25 [(0, .ref 102), (1, .int v1), (3, .int v3)] [] (Sh, D) ((oP Sh D) (fn_X12_firstPart_25 v1 v2 D n v3)) := by
  intro n
  induction n with
  | zero => intro v3; exact Rn_none rfl
  | succ n hk25 =>
    intro v3
    rw [fn_X12_firstPart_25]
    refine r_iload_n (pc := 25) 2 d_X12_firstPart_25 rfl rfl ?_
    refine r_aload_n (pc := 26) 0 d_X12_firstPart_26 rfl rfl ?_
    refine q_cP (f := (oP Sh D)) (av := [.ref 102]) (st := [.int v3]) (z_runV ck_X12_allCells rfl ml_X12_269 ci_X12_allCells cv_X12_allCells (K_102 h0) (ci := 12) rfl rfl (Nat.le_of_ble_eq_true rfl) d_X12_firstPart_27) (s_X12_allCells hst h0 (by omega)) kp_P (fun x3 _ => ?_)
    refine r_icmp_gt (f := (oP Sh D)) (pc := 30) 76 d_X12_firstPart_30 (by decide) (fun c4 => ?_) (fun c4 => ?_)
    · refine r_iconst (pc := 76) (-1 : Int32) d_X12_firstPart_76 rfl ?_
      exact r_iret (pc := 77) rfl d_X12_firstPart_77
    · refine r_iload_n (pc := 33) 2 d_X12_firstPart_33 rfl rfl ?_
      refine r_if_le (f := (oP Sh D)) (pc := 34) 76 d_X12_firstPart_34 (by decide) (fun c5 => ?_) (fun c5 => ?_)
      · refine r_iconst (pc := 76) (-1 : Int32) d_X12_firstPart_76 rfl ?_
        exact r_iret (pc := 77) rfl d_X12_firstPart_77
      · refine r_aload_n (pc := 37) 0 d_X12_firstPart_37 rfl rfl ?_
        refine r_iload_n (pc := 38) 1 d_X12_firstPart_38 rfl rfl ?_
        refine r_iload_n (pc := 39) 2 d_X12_firstPart_39 rfl rfl ?_
        refine q_cP (f := (oP Sh D)) (av := [.ref 102, .int v1, .int v3]) (st := []) (z_runV ck_X12_tells rfl ml_X12_335 ci_X12_tells cv_X12_tells (K_102 h0) (ci := 12) rfl rfl (Nat.le_of_ble_eq_true rfl) d_X12_firstPart_40) (s_X12_tells hst h0 (by omega)) kp_P (fun x6 _ => ?_)
        refine r_if_eq (f := (oP Sh D)) (pc := 43) 48 d_X12_firstPart_43 (by decide) (fun c7 => ?_) (fun c7 => ?_)
        · refine r_iload_n (pc := 48) 2 d_X12_firstPart_48 rfl rfl ?_
          refine r_iload_n (pc := 49) 2 d_X12_firstPart_49 rfl rfl ?_
          refine r_ineg (pc := 50) d_X12_firstPart_50 ?_
          refine r_iand (pc := 51) d_X12_firstPart_51 ?_
          refine r_leti (f := (oP Sh D)) (fun x8 => ?_)
          refine r_istore (pc := 52) (ls' := [(4, .int x8), (0, .ref 102), (1, .int v1), (3, .int v3)]) d_X12_firstPart_52 (Nat.le_of_ble_eq_true rfl) rfl ?_
          refine r_iload_n (pc := 54) 3 d_X12_firstPart_54 rfl rfl ?_
          refine r_iload (pc := 55) 0 d_X12_firstPart_55 rfl ?_
          refine r_iadd (pc := 57) d_X12_firstPart_57 ?_
          refine r_leti (f := (oP Sh D)) (fun x9 => ?_)
          refine r_istore (pc := 58) (ls' := [(5, .int x9), (4, .int x8), (0, .ref 102), (1, .int v1), (3, .int v3)]) d_X12_firstPart_58 (Nat.le_of_ble_eq_true rfl) rfl ?_
          refine r_iload (pc := 60) 0 d_X12_firstPart_60 rfl ?_
          refine r_iload_n (pc := 62) 4 d_X12_firstPart_62 rfl rfl ?_
          refine r_iload (pc := 63) 0 d_X12_firstPart_63 rfl ?_
          refine r_ixor (pc := 65) d_X12_firstPart_65 ?_
          refine r_iload (pc := 66) 1 d_X12_firstPart_66 rfl ?_
          refine r_idiv (f := (oP Sh D)) (pc := 68) d_X12_firstPart_68 rfl ?_
          refine r_iconst (pc := 69) (2 : Int32) d_X12_firstPart_69 rfl ?_
          refine r_ishr (pc := 70) d_X12_firstPart_70 ?_
          refine r_ior (pc := 71) d_X12_firstPart_71 ?_
          refine r_leti (f := (oP Sh D)) (fun x10 => ?_)
          refine r_istore_n (pc := 72) (ls' := [(3, .int x10), (5, .int x9), (4, .int x8), (0, .ref 102), (1, .int v1)]) d_X12_firstPart_72 rfl (Nat.le_of_ble_eq_true rfl) rfl ?_
          refine r_goto (pc := 73) 25 d_X12_firstPart_73 (by decide) ?_
          refine r_pick [3, 4, 0] (ls' := [(0, .ref 102), (1, .int v1), (3, .int x10)]) rfl ?_
          exact hk25 x10 
        · refine r_iload_n (pc := 46) 2 d_X12_firstPart_46 rfl rfl ?_
          exact r_iret (pc := 47) rfl d_X12_firstPart_47
theorem s_X12_firstPart {X : zX} {Sh : zSh} {d : Nat} (hst : (zl X).stackTraces = false) (h0 : zSh0 Sh) (hd : 3 ≤ d) {v1 : Int32} {v2 : Int32} {D : zD} : Sd X m_X12_firstPart d [.ref 102, .int v1, .int v2] (Sh, D) ((oP Sh D) (fn_X12_firstPart v1 v2 D)) := by
  obtain ⟨d, rfl⟩ : ∃ e, d = e + 1 := ⟨d - 1, by omega⟩
  replace hd : 2 ≤ d := by omega
  refine z_body ck_X12_firstPart rfl (Nat.le_of_ble_eq_true rfl) rfl hst ?_
  rw [fn_X12_firstPart]
  show Rn X m_X12_firstPart (d + 1) 0 [(0, .ref 102), (1, .int v1), (2, .int v2)] [] (Sh, D) _
  refine r_iload_n (pc := 0) 2 d_X12_firstPart_0 rfl rfl ?_
  refine r_if_ne (f := (oP Sh D)) (pc := 1) 19 d_X12_firstPart_1 (by decide) (fun c1 => ?_) (fun c1 => ?_)
  · refine r_iconst (pc := 19) (1 : Int32) d_X12_firstPart_19 rfl ?_
    refine r_iload_n (pc := 20) 2 d_X12_firstPart_20 rfl rfl ?_
    refine r_ishl (pc := 21) d_X12_firstPart_21 ?_
    refine r_iconst (pc := 22) (1 : Int32) d_X12_firstPart_22 rfl ?_
    refine r_isub (pc := 23) d_X12_firstPart_23 ?_
    refine r_leti (f := (oP Sh D)) (fun x2 => ?_)
    refine r_istore_n (pc := 24) (ls' := [(3, .int x2), (0, .ref 102), (1, .int v1), (2, .int v2)]) d_X12_firstPart_24 rfl (Nat.le_of_ble_eq_true rfl) rfl ?_
    refine r_pick [1, 2, 0] (ls' := [(0, .ref 102), (1, .int v1), (3, .int x2)]) rfl ?_
    exact s_X12_firstPart_25 hst h0 hd D zFU  x2
  · refine r_aload_n (pc := 4) 0 d_X12_firstPart_4 rfl rfl ?_
    refine r_iload_n (pc := 5) 1 d_X12_firstPart_5 rfl rfl ?_
    refine r_iconst (pc := 6) (0 : Int32) d_X12_firstPart_6 rfl ?_
    refine q_cP (f := (oP Sh D)) (av := [.ref 102, .int v1, .int (0 : Int32)]) (st := []) (z_runV ck_X12_tells rfl ml_X12_335 ci_X12_tells cv_X12_tells (K_102 h0) (ci := 12) rfl rfl (Nat.le_of_ble_eq_true rfl) d_X12_firstPart_7) (s_X12_tells hst h0 (by omega)) kp_P (fun x11 _ => ?_)
    refine r_if_eq (f := (oP Sh D)) (pc := 10) 17 d_X12_firstPart_10 (by decide) (fun c12 => ?_) (fun c12 => ?_)
    · refine r_iconst (pc := 17) (-1 : Int32) d_X12_firstPart_17 rfl ?_
      exact r_iret (pc := 18) rfl d_X12_firstPart_18
    · refine r_iconst (pc := 13) (0 : Int32) d_X12_firstPart_13 rfl ?_
      refine r_goto (pc := 14) 18 d_X12_firstPart_14 (by decide) ?_
      exact r_iret (pc := 18) rfl d_X12_firstPart_18
/-! CoveredSignsModel.least -/
theorem d_X12_least_0 : decode (yB m_X12_least) 0 = .ok (.aload_n 0, 1) := by decide +kernel
theorem d_X12_least_1 : decode (yB m_X12_least) 1 = .ok (.iconst 0, 1) := by decide +kernel
theorem d_X12_least_2 : decode (yB m_X12_least) 2 = .ok (.putfield 113, 3) := by decide +kernel
theorem d_X12_least_5 : decode (yB m_X12_least) 5 = .ok (.aload_n 0, 1) := by decide +kernel
theorem d_X12_least_6 : decode (yB m_X12_least) 6 = .ok (.aload_n 0, 1) := by decide +kernel
theorem d_X12_least_7 : decode (yB m_X12_least) 7 = .ok (.iload_n 1, 1) := by decide +kernel
theorem d_X12_least_8 : decode (yB m_X12_least) 8 = .ok (.invokevirtual 296, 3) := by decide +kernel
theorem d_X12_least_11 : decode (yB m_X12_least) 11 = .ok (.ifCond .ne 7, 3) := by decide +kernel
theorem d_X12_least_14 : decode (yB m_X12_least) 14 = .ok (.iconst 1, 1) := by decide +kernel
theorem d_X12_least_15 : decode (yB m_X12_least) 15 = .ok (.goto 4, 3) := by decide +kernel
theorem d_X12_least_18 : decode (yB m_X12_least) 18 = .ok (.iconst 0, 1) := by decide +kernel
theorem d_X12_least_19 : decode (yB m_X12_least) 19 = .ok (.iconst 1, 1) := by decide +kernel
theorem d_X12_least_20 : decode (yB m_X12_least) 20 = .ok (.invokevirtual 214, 3) := by decide +kernel
theorem d_X12_least_23 : decode (yB m_X12_least) 23 = .ok (.ifCond .ne 25, 3) := by decide +kernel
theorem d_X12_least_26 : decode (yB m_X12_least) 26 = .ok (.aload_n 0, 1) := by decide +kernel
theorem d_X12_least_27 : decode (yB m_X12_least) 27 = .ok (.iload_n 2, 1) := by decide +kernel
theorem d_X12_least_28 : decode (yB m_X12_least) 28 = .ok (.iconst 0, 1) := by decide +kernel
theorem d_X12_least_29 : decode (yB m_X12_least) 29 = .ok (.iconst 1, 1) := by decide +kernel
theorem d_X12_least_30 : decode (yB m_X12_least) 30 = .ok (.invokestatic 147, 3) := by decide +kernel
theorem d_X12_least_33 : decode (yB m_X12_least) 33 = .ok (.ifCond .ne 7, 3) := by decide +kernel
theorem d_X12_least_36 : decode (yB m_X12_least) 36 = .ok (.iconst 1, 1) := by decide +kernel
theorem d_X12_least_37 : decode (yB m_X12_least) 37 = .ok (.goto 4, 3) := by decide +kernel
theorem d_X12_least_40 : decode (yB m_X12_least) 40 = .ok (.iconst 0, 1) := by decide +kernel
theorem d_X12_least_41 : decode (yB m_X12_least) 41 = .ok (.iconst 2, 1) := by decide +kernel
theorem d_X12_least_42 : decode (yB m_X12_least) 42 = .ok (.invokevirtual 214, 3) := by decide +kernel
theorem d_X12_least_45 : decode (yB m_X12_least) 45 = .ok (.ifCond .eq 5, 3) := by decide +kernel
theorem d_X12_least_48 : decode (yB m_X12_least) 48 = .ok (.iconst 0, 1) := by decide +kernel
theorem d_X12_least_49 : decode (yB m_X12_least) 49 = .ok (.ireturn, 1) := by decide +kernel
theorem d_X12_least_50 : decode (yB m_X12_least) 50 = .ok (.iconst 0, 1) := by decide +kernel
theorem d_X12_least_51 : decode (yB m_X12_least) 51 = .ok (.istore_n 3, 1) := by decide +kernel
theorem d_X12_least_52 : decode (yB m_X12_least) 52 = .ok (.iload_n 3, 1) := by decide +kernel
theorem d_X12_least_53 : decode (yB m_X12_least) 53 = .ok (.bipush 7, 2) := by decide +kernel
theorem d_X12_least_55 : decode (yB m_X12_least) 55 = .ok (.if_icmp .ge 34, 3) := by decide +kernel
theorem d_X12_least_58 : decode (yB m_X12_least) 58 = .ok (.aload_n 0, 1) := by decide +kernel
theorem d_X12_least_59 : decode (yB m_X12_least) 59 = .ok (.iload_n 1, 1) := by decide +kernel
theorem d_X12_least_60 : decode (yB m_X12_least) 60 = .ok (.iload_n 3, 1) := by decide +kernel
theorem d_X12_least_61 : decode (yB m_X12_least) 61 = .ok (.invokevirtual 332, 3) := by decide +kernel
theorem d_X12_least_64 : decode (yB m_X12_least) 64 = .ok (.istore 4, 2) := by decide +kernel
theorem d_X12_least_66 : decode (yB m_X12_least) 66 = .ok (.iload 4, 2) := by decide +kernel
theorem d_X12_least_68 : decode (yB m_X12_least) 68 = .ok (.iconst (-1), 1) := by decide +kernel
theorem d_X12_least_69 : decode (yB m_X12_least) 69 = .ok (.if_icmp .eq 14, 3) := by decide +kernel
theorem d_X12_least_72 : decode (yB m_X12_least) 72 = .ok (.iload_n 2, 1) := by decide +kernel
theorem d_X12_least_73 : decode (yB m_X12_least) 73 = .ok (.ifCond .ne 7, 3) := by decide +kernel
theorem d_X12_least_76 : decode (yB m_X12_least) 76 = .ok (.iload_n 3, 1) := by decide +kernel
theorem d_X12_least_77 : decode (yB m_X12_least) 77 = .ok (.goto 5, 3) := by decide +kernel
theorem d_X12_least_80 : decode (yB m_X12_least) 80 = .ok (.iload 4, 2) := by decide +kernel
theorem d_X12_least_82 : decode (yB m_X12_least) 82 = .ok (.ireturn, 1) := by decide +kernel
theorem d_X12_least_83 : decode (yB m_X12_least) 83 = .ok (.iinc 3 1, 3) := by decide +kernel
theorem d_X12_least_86 : decode (yB m_X12_least) 86 = .ok (.goto (-34), 3) := by decide +kernel
theorem d_X12_least_89 : decode (yB m_X12_least) 89 = .ok (.iconst (-1), 1) := by decide +kernel
theorem d_X12_least_90 : decode (yB m_X12_least) 90 = .ok (.ireturn, 1) := by decide +kernel
def fn_X12_least_72 (v1 : Int32) (v2 : Int32) (v3 : Int32) (v4 : Int32) (D : zD) : Option (Int32 × zD) := (if v2 = 0 then ((some (v3, D))) else ((some (v4, D))))
def fn_X12_least_52 (v1 : Int32) (v2 : Int32) : Nat → Int32 → zD → Option (Int32 × zD)
  | 0, _, _ => none
  | n + 1, v3, D => (if (7 : Int32) ≤ v3 then ((some ((-1 : Int32), D))) else ((fn_X12_firstPart v1 v3 D).bind fun x11 => (if x11 = (-1 : Int32) then (((fn_X12_least_52 v1 v2 n) (v3 + (1 : Int32)) D)) else ((fn_X12_least_72 v1 v2 v3 x11 D)))))
def fn_X12_least_41 (v1 : Int32) (v2 : Int32) (w1 : Int32) (D : zD) : Option (Int32 × zD) := (fn_X12_bad w1 (2 : Int32) D).bind fun q8 => (if q8.1 = 0 then ((fn_X12_least_52 v1 v2 zFU (0 : Int32) q8.2)) else ((some ((0 : Int32), q8.2))))
def fn_X12_least_19 (v1 : Int32) (v2 : Int32) (w1 : Int32) (D : zD) : Option (Int32 × zD) := (fn_X12_bad w1 (1 : Int32) D).bind fun q4 => (if q4.1 = 0 then ((fn_X12_in v2 (0 : Int32) (1 : Int32)).bind fun x6 => (if x6 = 0 then ((fn_X12_least_41 v1 v2 (1 : Int32) q4.2)) else ((fn_X12_least_41 v1 v2 (0 : Int32) q4.2)))) else ((some ((0 : Int32), q4.2))))
def fn_X12_least (v1 : Int32) (v2 : Int32) (D : zD) : Option (Int32 × zD) := zlet (sI D 102 0 (0 : Int32)) fun D1 => (fn_X12_isSign v1 D1).bind fun x2 => (if x2 = 0 then ((fn_X12_least_19 v1 v2 (1 : Int32) D1)) else ((fn_X12_least_19 v1 v2 (0 : Int32) D1)))
theorem s_X12_least_72 {X : zX} {Sh : zSh} {d : Nat} (hst : (zl X).stackTraces = false) (h0 : zSh0 Sh) (hd : 3 ≤ d) {v1 : Int32} {v2 : Int32} (v3 : Int32) (v4 : Int32) (D : zD)  : Rn X m_X12_least (d + 1) 72 [(2, .int v2), (3, .int v3), (4, .int v4)] [] (Sh, D) ((oI Sh) (fn_X12_least_72 v1 v2 v3 v4 D)) := by
  rw [fn_X12_least_72]
  refine r_iload_n (pc := 72) 0 d_X12_least_72 rfl rfl ?_
  refine r_if_ne (f := (oI Sh)) (pc := 73) 80 d_X12_least_73 (by decide) (fun c13 => ?_) (fun c13 => ?_)
  · refine r_iload (pc := 80) 2 d_X12_least_80 rfl ?_
    exact r_iret (pc := 82) rfl d_X12_least_82
  · refine r_iload_n (pc := 76) 1 d_X12_least_76 rfl rfl ?_
    refine r_goto (pc := 77) 82 d_X12_least_77 (by decide) ?_
    exact r_iret (pc := 82) rfl d_X12_least_82
theorem s_X12_least_52 {X : zX} {Sh : zSh} {d : Nat} (hst : (zl X).stackTraces = false) (h0 : zSh0 Sh) (hd : 3 ≤ d) {v1 : Int32} {v2 : Int32} : ∀ (n : Nat) (v3 : Int32) (D : zD) , Rn X m_X12_least (d + 1) 52 [(0, .ref 102), (1, .int v1), (2, .int v2), (3, .int v3)] [] (Sh, D) ((oI Sh) (fn_X12_least_52 v1 v2 n v3 D)) := by
  intro n
  induction n with
  | zero => intro v3 D; exact Rn_none rfl
  | succ n hk52 =>
    intro v3 D
    rw [fn_X12_least_52]
    refine r_iload_n (pc := 52) 3 d_X12_least_52 rfl rfl ?_
    refine r_bipush (pc := 53) (7 : Int32) d_X12_least_53 rfl ?_
    refine r_icmp_ge (f := (oI Sh)) (pc := 55) 89 d_X12_least_55 (by decide) (fun c10 => ?_) (fun c10 => ?_)
    · refine r_iconst (pc := 89) (-1 : Int32) d_X12_least_89 rfl ?_
      exact r_iret (pc := 90) rfl d_X12_least_90
    · refine r_aload_n (pc := 58) 0 d_X12_least_58 rfl rfl ?_
      refine r_iload_n (pc := 59) 1 d_X12_least_59 rfl rfl ?_
      refine r_iload_n (pc := 60) 3 d_X12_least_60 rfl rfl ?_
      refine q_cP (f := (oI Sh)) (av := [.ref 102, .int v1, .int v3]) (st := []) (z_runV ck_X12_firstPart rfl ml_X12_332 ci_X12_firstPart cv_X12_firstPart (K_102 h0) (ci := 12) rfl rfl (Nat.le_of_ble_eq_true rfl) d_X12_least_61) (s_X12_firstPart hst h0 (by omega)) kp_I (fun x11 _ => ?_)
      refine r_istore (pc := 64) (ls' := [(4, .int x11), (0, .ref 102), (1, .int v1), (2, .int v2), (3, .int v3)]) d_X12_least_64 (Nat.le_of_ble_eq_true rfl) rfl ?_
      refine r_iload (pc := 66) 0 d_X12_least_66 rfl ?_
      refine r_iconst (pc := 68) (-1 : Int32) d_X12_least_68 rfl ?_
      refine r_icmp_eq (f := (oI Sh)) (pc := 69) 83 d_X12_least_69 (by decide) (fun c12 => ?_) (fun c12 => ?_)
      · refine r_iinc (pc := 83) ((v3 + (1 : Int32))) 4 (ls' := [(3, .int (v3 + (1 : Int32))), (4, .int x11), (0, .ref 102), (1, .int v1), (2, .int v2)]) d_X12_least_83 rfl rfl (Nat.le_of_ble_eq_true rfl) rfl ?_
        refine r_goto (pc := 86) 52 d_X12_least_86 (by decide) ?_
        refine r_pick [2, 3, 4, 0] (ls' := [(0, .ref 102), (1, .int v1), (2, .int v2), (3, .int (v3 + (1 : Int32)))]) rfl ?_
        exact hk52 (v3 + (1 : Int32)) D 
      · refine r_pick [3, 4, 0] (ls' := [(2, .int v2), (3, .int v3), (4, .int x11)]) rfl ?_
        exact s_X12_least_72 hst h0 hd v3 x11 D
theorem s_X12_least_41 {X : zX} {Sh : zSh} {d : Nat} (hst : (zl X).stackTraces = false) (h0 : zSh0 Sh) (hd : 3 ≤ d) {v1 : Int32} {v2 : Int32} (w1 : Int32) (D : zD)  : Rn X m_X12_least (d + 1) 41 [(0, .ref 102), (1, .int v1), (2, .int v2)] [.int w1, .ref 102] (Sh, D) ((oI Sh) (fn_X12_least_41 v1 v2 w1 D)) := by
  rw [fn_X12_least_41]
  refine r_iconst (pc := 41) (2 : Int32) d_X12_least_41 rfl ?_
  refine q_cI (f := (oI Sh)) (av := [.ref 102, .int w1, .int (2 : Int32)]) (st := []) (z_runV ck_X12_bad rfl ml_X12_214 ci_X12_bad cv_X12_bad (K_102 h0) (ci := 12) rfl rfl (Nat.le_of_ble_eq_true rfl) d_X12_least_42) (s_X12_bad hst h0 (by omega)) kp_I (fun q8 _ => ?_)
  refine r_if_eq (f := (oI Sh)) (pc := 45) 50 d_X12_least_45 (by decide) (fun c9 => ?_) (fun c9 => ?_)
  · refine r_iconst (pc := 50) (0 : Int32) d_X12_least_50 rfl ?_
    refine r_istore_n (pc := 51) (ls' := [(3, .int (0 : Int32)), (0, .ref 102), (1, .int v1), (2, .int v2)]) d_X12_least_51 rfl (Nat.le_of_ble_eq_true rfl) rfl ?_
    refine r_pick [1, 2, 3, 0] (ls' := [(0, .ref 102), (1, .int v1), (2, .int v2), (3, .int (0 : Int32))]) rfl ?_
    exact s_X12_least_52 hst h0 hd zFU  (0 : Int32) q8.2
  · refine r_iconst (pc := 48) (0 : Int32) d_X12_least_48 rfl ?_
    exact r_iret (pc := 49) rfl d_X12_least_49
theorem s_X12_least_19 {X : zX} {Sh : zSh} {d : Nat} (hst : (zl X).stackTraces = false) (h0 : zSh0 Sh) (hd : 3 ≤ d) {v1 : Int32} {v2 : Int32} (w1 : Int32) (D : zD)  : Rn X m_X12_least (d + 1) 19 [(0, .ref 102), (1, .int v1), (2, .int v2)] [.int w1, .ref 102] (Sh, D) ((oI Sh) (fn_X12_least_19 v1 v2 w1 D)) := by
  rw [fn_X12_least_19]
  refine r_iconst (pc := 19) (1 : Int32) d_X12_least_19 rfl ?_
  refine q_cI (f := (oI Sh)) (av := [.ref 102, .int w1, .int (1 : Int32)]) (st := []) (z_runV ck_X12_bad rfl ml_X12_214 ci_X12_bad cv_X12_bad (K_102 h0) (ci := 12) rfl rfl (Nat.le_of_ble_eq_true rfl) d_X12_least_20) (s_X12_bad hst h0 (by omega)) kp_I (fun q4 _ => ?_)
  refine r_if_ne (f := (oI Sh)) (pc := 23) 48 d_X12_least_23 (by decide) (fun c5 => ?_) (fun c5 => ?_)
  · refine r_iconst (pc := 48) (0 : Int32) d_X12_least_48 rfl ?_
    exact r_iret (pc := 49) rfl d_X12_least_49
  · refine r_aload_n (pc := 26) 0 d_X12_least_26 rfl rfl ?_
    refine r_iload_n (pc := 27) 2 d_X12_least_27 rfl rfl ?_
    refine r_iconst (pc := 28) (0 : Int32) d_X12_least_28 rfl ?_
    refine r_iconst (pc := 29) (1 : Int32) d_X12_least_29 rfl ?_
    refine q_cP (f := (oI Sh)) (av := [.int v2, .int (0 : Int32), .int (1 : Int32)]) (st := [.ref 102]) (z_runS ck_X12_in rfl ml_X12_147 cs_X12_in rfl (Nat.le_of_ble_eq_true rfl) d_X12_least_30) (s_X12_in hst h0 (by omega)) kp_I (fun x6 _ => ?_)
    refine r_if_ne (f := (oI Sh)) (pc := 33) 40 d_X12_least_33 (by decide) (fun c7 => ?_) (fun c7 => ?_)
    · refine r_iconst (pc := 40) (0 : Int32) d_X12_least_40 rfl ?_
      refine r_pick [0, 1, 2] (ls' := [(0, .ref 102), (1, .int v1), (2, .int v2)]) rfl ?_
      exact s_X12_least_41 hst h0 hd (0 : Int32) q4.2
    · refine r_iconst (pc := 36) (1 : Int32) d_X12_least_36 rfl ?_
      refine r_goto (pc := 37) 41 d_X12_least_37 (by decide) ?_
      refine r_pick [0, 1, 2] (ls' := [(0, .ref 102), (1, .int v1), (2, .int v2)]) rfl ?_
      exact s_X12_least_41 hst h0 hd (1 : Int32) q4.2
theorem s_X12_least {X : zX} {Sh : zSh} {d : Nat} (hst : (zl X).stackTraces = false) (h0 : zSh0 Sh) (hd : 4 ≤ d) {v1 : Int32} {v2 : Int32} {D : zD} : Sd X m_X12_least d [.ref 102, .int v1, .int v2] (Sh, D) ((oI Sh) (fn_X12_least v1 v2 D)) := by
  obtain ⟨d, rfl⟩ : ∃ e, d = e + 1 := ⟨d - 1, by omega⟩
  replace hd : 3 ≤ d := by omega
  refine z_body ck_X12_least rfl (Nat.le_of_ble_eq_true rfl) rfl hst ?_
  rw [fn_X12_least]
  show Rn X m_X12_least (d + 1) 0 [(0, .ref 102), (1, .int v1), (2, .int v2)] [] (Sh, D) _
  refine r_aload_n (pc := 0) 0 d_X12_least_0 rfl rfl ?_
  refine r_iconst (pc := 1) (0 : Int32) d_X12_least_1 rfl ?_
  refine r_putI (pc := 2) p_X12_113 (K_102 h0) rfl (Or.inl rfl) d_X12_least_2 ?_
  refine r_letD (f := (oI Sh)) (fun D1 => ?_)
  refine r_aload_n (pc := 5) 0 d_X12_least_5 rfl rfl ?_
  refine r_aload_n (pc := 6) 0 d_X12_least_6 rfl rfl ?_
  refine r_iload_n (pc := 7) 1 d_X12_least_7 rfl rfl ?_
  refine q_cP (f := (oI Sh)) (av := [.ref 102, .int v1]) (st := [.ref 102]) (z_runV ck_X12_isSign rfl ml_X12_296 ci_X12_isSign cv_X12_isSign (K_102 h0) (ci := 12) rfl rfl (Nat.le_of_ble_eq_true rfl) d_X12_least_8) (s_X12_isSign hst h0 (by omega)) kp_I (fun x2 _ => ?_)
  refine r_if_ne (f := (oI Sh)) (pc := 11) 18 d_X12_least_11 (by decide) (fun c3 => ?_) (fun c3 => ?_)
  · refine r_iconst (pc := 18) (0 : Int32) d_X12_least_18 rfl ?_
    refine r_pick [0, 1, 2] (ls' := [(0, .ref 102), (1, .int v1), (2, .int v2)]) rfl ?_
    exact s_X12_least_19 hst h0 hd (0 : Int32) D1
  · refine r_iconst (pc := 14) (1 : Int32) d_X12_least_14 rfl ?_
    refine r_goto (pc := 15) 19 d_X12_least_15 (by decide) ?_
    refine r_pick [0, 1, 2] (ls' := [(0, .ref 102), (1, .int v1), (2, .int v2)]) rfl ?_
    exact s_X12_least_19 hst h0 hd (1 : Int32) D1
/-! CoveredSignsModel.finds -/
theorem d_X12_finds_0 : decode (yB m_X12_finds) 0 = .ok (.iconst 0, 1) := by decide +kernel
theorem d_X12_finds_1 : decode (yB m_X12_finds) 1 = .ok (.istore_n 2, 1) := by decide +kernel
theorem d_X12_finds_2 : decode (yB m_X12_finds) 2 = .ok (.iload_n 2, 1) := by decide +kernel
theorem d_X12_finds_3 : decode (yB m_X12_finds) 3 = .ok (.aload_n 0, 1) := by decide +kernel
theorem d_X12_finds_4 : decode (yB m_X12_finds) 4 = .ok (.invokevirtual 242, 3) := by decide +kernel
theorem d_X12_finds_7 : decode (yB m_X12_finds) 7 = .ok (.if_icmp .ge 98, 3) := by decide +kernel
theorem d_X12_finds_10 : decode (yB m_X12_finds) 10 = .ok (.aload_n 0, 1) := by decide +kernel
theorem d_X12_finds_11 : decode (yB m_X12_finds) 11 = .ok (.getfield 81, 3) := by decide +kernel
theorem d_X12_finds_14 : decode (yB m_X12_finds) 14 = .ok (.iload_n 2, 1) := by decide +kernel
theorem d_X12_finds_15 : decode (yB m_X12_finds) 15 = .ok (.iaload, 1) := by decide +kernel
theorem d_X12_finds_16 : decode (yB m_X12_finds) 16 = .ok (.iload_n 1, 1) := by decide +kernel
theorem d_X12_finds_17 : decode (yB m_X12_finds) 17 = .ok (.if_icmp .ne 82, 3) := by decide +kernel
theorem d_X12_finds_20 : decode (yB m_X12_finds) 20 = .ok (.aload_n 0, 1) := by decide +kernel
theorem d_X12_finds_21 : decode (yB m_X12_finds) 21 = .ok (.getfield 90, 3) := by decide +kernel
theorem d_X12_finds_24 : decode (yB m_X12_finds) 24 = .ok (.aload_n 0, 1) := by decide +kernel
theorem d_X12_finds_25 : decode (yB m_X12_finds) 25 = .ok (.getfield 84, 3) := by decide +kernel
theorem d_X12_finds_28 : decode (yB m_X12_finds) 28 = .ok (.iload_n 2, 1) := by decide +kernel
theorem d_X12_finds_29 : decode (yB m_X12_finds) 29 = .ok (.iaload, 1) := by decide +kernel
theorem d_X12_finds_30 : decode (yB m_X12_finds) 30 = .ok (.baload, 1) := by decide +kernel
theorem d_X12_finds_31 : decode (yB m_X12_finds) 31 = .ok (.ifCond .eq 6, 3) := by decide +kernel
theorem d_X12_finds_34 : decode (yB m_X12_finds) 34 = .ok (.goto 65, 3) := by decide +kernel
theorem d_X12_finds_37 : decode (yB m_X12_finds) 37 = .ok (.aload_n 0, 1) := by decide +kernel
theorem d_X12_finds_38 : decode (yB m_X12_finds) 38 = .ok (.getfield 90, 3) := by decide +kernel
theorem d_X12_finds_41 : decode (yB m_X12_finds) 41 = .ok (.aload_n 0, 1) := by decide +kernel
theorem d_X12_finds_42 : decode (yB m_X12_finds) 42 = .ok (.getfield 84, 3) := by decide +kernel
theorem d_X12_finds_45 : decode (yB m_X12_finds) 45 = .ok (.iload_n 2, 1) := by decide +kernel
theorem d_X12_finds_46 : decode (yB m_X12_finds) 46 = .ok (.iaload, 1) := by decide +kernel
theorem d_X12_finds_47 : decode (yB m_X12_finds) 47 = .ok (.iconst 1, 1) := by decide +kernel
theorem d_X12_finds_48 : decode (yB m_X12_finds) 48 = .ok (.bastore, 1) := by decide +kernel
theorem d_X12_finds_49 : decode (yB m_X12_finds) 49 = .ok (.aload_n 0, 1) := by decide +kernel
theorem d_X12_finds_50 : decode (yB m_X12_finds) 50 = .ok (.getfield 87, 3) := by decide +kernel
theorem d_X12_finds_53 : decode (yB m_X12_finds) 53 = .ok (.aload_n 0, 1) := by decide +kernel
theorem d_X12_finds_54 : decode (yB m_X12_finds) 54 = .ok (.getfield 84, 3) := by decide +kernel
theorem d_X12_finds_57 : decode (yB m_X12_finds) 57 = .ok (.iload_n 2, 1) := by decide +kernel
theorem d_X12_finds_58 : decode (yB m_X12_finds) 58 = .ok (.iaload, 1) := by decide +kernel
theorem d_X12_finds_59 : decode (yB m_X12_finds) 59 = .ok (.iaload, 1) := by decide +kernel
theorem d_X12_finds_60 : decode (yB m_X12_finds) 60 = .ok (.iconst (-1), 1) := by decide +kernel
theorem d_X12_finds_61 : decode (yB m_X12_finds) 61 = .ok (.if_icmp .eq 24, 3) := by decide +kernel
theorem d_X12_finds_64 : decode (yB m_X12_finds) 64 = .ok (.aload_n 0, 1) := by decide +kernel
theorem d_X12_finds_65 : decode (yB m_X12_finds) 65 = .ok (.aload_n 0, 1) := by decide +kernel
theorem d_X12_finds_66 : decode (yB m_X12_finds) 66 = .ok (.getfield 87, 3) := by decide +kernel
theorem d_X12_finds_69 : decode (yB m_X12_finds) 69 = .ok (.aload_n 0, 1) := by decide +kernel
theorem d_X12_finds_70 : decode (yB m_X12_finds) 70 = .ok (.getfield 84, 3) := by decide +kernel
theorem d_X12_finds_73 : decode (yB m_X12_finds) 73 = .ok (.iload_n 2, 1) := by decide +kernel
theorem d_X12_finds_74 : decode (yB m_X12_finds) 74 = .ok (.iaload, 1) := by decide +kernel
theorem d_X12_finds_75 : decode (yB m_X12_finds) 75 = .ok (.iaload, 1) := by decide +kernel
theorem d_X12_finds_76 : decode (yB m_X12_finds) 76 = .ok (.invokevirtual 338, 3) := by decide +kernel
theorem d_X12_finds_79 : decode (yB m_X12_finds) 79 = .ok (.ifCond .ne 6, 3) := by decide +kernel
theorem d_X12_finds_82 : decode (yB m_X12_finds) 82 = .ok (.goto 17, 3) := by decide +kernel
theorem d_X12_finds_85 : decode (yB m_X12_finds) 85 = .ok (.aload_n 0, 1) := by decide +kernel
theorem d_X12_finds_86 : decode (yB m_X12_finds) 86 = .ok (.getfield 87, 3) := by decide +kernel
theorem d_X12_finds_89 : decode (yB m_X12_finds) 89 = .ok (.aload_n 0, 1) := by decide +kernel
theorem d_X12_finds_90 : decode (yB m_X12_finds) 90 = .ok (.getfield 84, 3) := by decide +kernel
theorem d_X12_finds_93 : decode (yB m_X12_finds) 93 = .ok (.iload_n 2, 1) := by decide +kernel
theorem d_X12_finds_94 : decode (yB m_X12_finds) 94 = .ok (.iaload, 1) := by decide +kernel
theorem d_X12_finds_95 : decode (yB m_X12_finds) 95 = .ok (.iload_n 1, 1) := by decide +kernel
theorem d_X12_finds_96 : decode (yB m_X12_finds) 96 = .ok (.iastore, 1) := by decide +kernel
theorem d_X12_finds_97 : decode (yB m_X12_finds) 97 = .ok (.iconst 1, 1) := by decide +kernel
theorem d_X12_finds_98 : decode (yB m_X12_finds) 98 = .ok (.ireturn, 1) := by decide +kernel
theorem d_X12_finds_99 : decode (yB m_X12_finds) 99 = .ok (.iinc 2 1, 3) := by decide +kernel
theorem d_X12_finds_102 : decode (yB m_X12_finds) 102 = .ok (.goto (-100), 3) := by decide +kernel
theorem d_X12_finds_105 : decode (yB m_X12_finds) 105 = .ok (.iconst 0, 1) := by decide +kernel
theorem d_X12_finds_106 : decode (yB m_X12_finds) 106 = .ok (.ireturn, 1) := by decide +kernel
def fn_X12_finds_85 (f_X12_finds : Int32 → zD → Option (Int32 × zD)) (v1 : Int32) (v2 : Int32) (D : zD) : Option (Int32 × zD) := zck v2 30 <| zck (gI D 197 v2.toNatClampNeg) 30 <| zlet (sI D 198 (gI D 197 v2.toNatClampNeg).toNatClampNeg v1) fun D16 => (some ((1 : Int32), D16))
def fn_X12_finds_2 (f_X12_finds : Int32 → zD → Option (Int32 × zD)) (v1 : Int32) : Nat → Int32 → zD → Option (Int32 × zD)
  | 0, _, _ => none
  | n + 1, v2, D => (fn_X12_cells D).bind fun x1 => (if x1 ≤ v2 then ((some ((0 : Int32), D))) else (zck v2 30 <| (if (gI D 196 v2.toNatClampNeg) = v1 then (zck v2 30 <| zck (gI D 197 v2.toNatClampNeg) 30 <| (if (gI D 199 (gI D 197 v2.toNatClampNeg).toNatClampNeg) = 0 then (zck v2 30 <| zck (gI D 197 v2.toNatClampNeg) 30 <| zlet (sI D 199 (gI D 197 v2.toNatClampNeg).toNatClampNeg (1 : Int32)) fun D10 => zck v2 30 <| zck (gI D10 197 v2.toNatClampNeg) 30 <| (if (gI D10 198 (gI D10 197 v2.toNatClampNeg).toNatClampNeg) = (-1 : Int32) then ((fn_X12_finds_85 f_X12_finds v1 v2 D10)) else (zck v2 30 <| zck (gI D10 197 v2.toNatClampNeg) 30 <| (f_X12_finds (gI D10 198 (gI D10 197 v2.toNatClampNeg).toNatClampNeg) D10).bind fun q19 => (if q19.1 = 0 then (((fn_X12_finds_2 f_X12_finds v1 n) (v2 + (1 : Int32)) q19.2)) else ((fn_X12_finds_85 f_X12_finds v1 v2 q19.2)))))) else (((fn_X12_finds_2 f_X12_finds v1 n) (v2 + (1 : Int32)) D)))) else (((fn_X12_finds_2 f_X12_finds v1 n) (v2 + (1 : Int32)) D)))))
def fn_X12_finds (f_X12_finds : Int32 → zD → Option (Int32 × zD)) (v1 : Int32) (D : zD) : Option (Int32 × zD) := (fn_X12_finds_2 f_X12_finds v1 zFU (0 : Int32) D)
theorem s_X12_finds_85 {X : zX} {Sh : zSh} {d : Nat} (hst : (zl X).stackTraces = false) (h0 : zSh0 Sh) (hd : 1 ≤ d) {v1 : Int32} (f_X12_finds : Int32 → zD → Option (Int32 × zD)) (hf_X12_finds : ∀ (v1 : Int32) (D : zD), Sd X m_X12_finds d [.ref 102, .int v1] (Sh, D) ((oI Sh) (f_X12_finds v1 D))) (v2 : Int32) (D : zD)  : Rn X m_X12_finds (d + 1) 85 [(0, .ref 102), (1, .int v1), (2, .int v2)] [] (Sh, D) ((oI Sh) (fn_X12_finds_85 f_X12_finds v1 v2 D)) := by
  rw [fn_X12_finds_85]
  refine r_aload_n (pc := 85) 0 d_X12_finds_85 rfl rfl ?_
  refine r_getR (pc := 86) g_X12_87 (K_102 h0) rfl (R_102_46 h0) d_X12_finds_86 ?_
  refine r_aload_n (pc := 89) 0 d_X12_finds_89 rfl rfl ?_
  refine r_getR (pc := 90) g_X12_84 (K_102 h0) rfl (R_102_45 h0) d_X12_finds_90 ?_
  refine r_iload_n (pc := 93) 2 d_X12_finds_93 rfl rfl ?_
  refine r_ck (f := (oI Sh)) rfl (fun hc14 => ?_)
  refine q_iald (pc := 94) (j := v2.toNatClampNeg) (K_197 h0) hc14 rfl d_X12_finds_94 ?_
  refine r_iload_n (pc := 95) 1 d_X12_finds_95 rfl rfl ?_
  refine r_ck (f := (oI Sh)) rfl (fun hc15 => ?_)
  refine q_iast (pc := 96) (j := (gI D 197 v2.toNatClampNeg).toNatClampNeg) (K_198 h0) hc15 rfl  d_X12_finds_96 ?_
  refine r_letD (f := (oI Sh)) (fun D16 => ?_)
  refine r_iconst (pc := 97) (1 : Int32) d_X12_finds_97 rfl ?_
  exact r_zret (pc := 98) rfl (by decide) d_X12_finds_98
theorem s_X12_finds_2 {X : zX} {Sh : zSh} {d : Nat} (hst : (zl X).stackTraces = false) (h0 : zSh0 Sh) (hd : 1 ≤ d) {v1 : Int32} (f_X12_finds : Int32 → zD → Option (Int32 × zD)) (hf_X12_finds : ∀ (v1 : Int32) (D : zD), Sd X m_X12_finds d [.ref 102, .int v1] (Sh, D) ((oI Sh) (f_X12_finds v1 D))) : ∀ (n : Nat) (v2 : Int32) (D : zD) , Rn X m_X12_finds (d + 1) 2 [(0, .ref 102), (1, .int v1), (2, .int v2)] [] (Sh, D) ((oI Sh) (fn_X12_finds_2 f_X12_finds v1 n v2 D)) := by
  intro n
  induction n with
  | zero => intro v2 D; exact Rn_none rfl
  | succ n hk2 =>
    intro v2 D
    rw [fn_X12_finds_2]
    refine r_iload_n (pc := 2) 2 d_X12_finds_2 rfl rfl ?_
    refine r_aload_n (pc := 3) 0 d_X12_finds_3 rfl rfl ?_
    refine q_cP (f := (oI Sh)) (av := [.ref 102]) (st := [.int v2]) (z_runV ck_X12_cells rfl ml_X12_242 ci_X12_cells cv_X12_cells (K_102 h0) (ci := 12) rfl rfl (Nat.le_of_ble_eq_true rfl) d_X12_finds_4) (s_X12_cells hst h0 (by omega)) kp_I (fun x1 _ => ?_)
    refine r_icmp_ge (f := (oI Sh)) (pc := 7) 105 d_X12_finds_7 (by decide) (fun c2 => ?_) (fun c2 => ?_)
    · refine r_iconst (pc := 105) (0 : Int32) d_X12_finds_105 rfl ?_
      exact r_zret (pc := 106) rfl (by decide) d_X12_finds_106
    · refine r_aload_n (pc := 10) 0 d_X12_finds_10 rfl rfl ?_
      refine r_getR (pc := 11) g_X12_81 (K_102 h0) rfl (R_102_44 h0) d_X12_finds_11 ?_
      refine r_iload_n (pc := 14) 2 d_X12_finds_14 rfl rfl ?_
      refine r_ck (f := (oI Sh)) rfl (fun hc3 => ?_)
      refine q_iald (pc := 15) (j := v2.toNatClampNeg) (K_196 h0) hc3 rfl d_X12_finds_15 ?_
      refine r_iload_n (pc := 16) 1 d_X12_finds_16 rfl rfl ?_
      refine r_icmp_ne (f := (oI Sh)) (pc := 17) 99 d_X12_finds_17 (by decide) (fun c4 => ?_) (fun c4 => ?_)
      · refine r_iinc (pc := 99) ((v2 + (1 : Int32))) 2 (ls' := [(2, .int (v2 + (1 : Int32))), (0, .ref 102), (1, .int v1)]) d_X12_finds_99 rfl rfl (Nat.le_of_ble_eq_true rfl) rfl ?_
        refine r_goto (pc := 102) 2 d_X12_finds_102 (by decide) ?_
        refine r_pick [1, 2, 0] (ls' := [(0, .ref 102), (1, .int v1), (2, .int (v2 + (1 : Int32)))]) rfl ?_
        exact hk2 (v2 + (1 : Int32)) D 
      · refine r_aload_n (pc := 20) 0 d_X12_finds_20 rfl rfl ?_
        refine r_getR (pc := 21) g_X12_90 (K_102 h0) rfl (R_102_47 h0) d_X12_finds_21 ?_
        refine r_aload_n (pc := 24) 0 d_X12_finds_24 rfl rfl ?_
        refine r_getR (pc := 25) g_X12_84 (K_102 h0) rfl (R_102_45 h0) d_X12_finds_25 ?_
        refine r_iload_n (pc := 28) 2 d_X12_finds_28 rfl rfl ?_
        refine r_ck (f := (oI Sh)) rfl (fun hc5 => ?_)
        refine q_iald (pc := 29) (j := v2.toNatClampNeg) (K_197 h0) hc5 rfl d_X12_finds_29 ?_
        refine r_ck (f := (oI Sh)) rfl (fun hc6 => ?_)
        refine q_zald (pc := 30) (j := (gI D 197 v2.toNatClampNeg).toNatClampNeg) (K_199 h0) hc6 rfl d_X12_finds_30 ?_
        refine r_if_eq (f := (oI Sh)) (pc := 31) 37 d_X12_finds_31 (by decide) (fun c7 => ?_) (fun c7 => ?_)
        · refine r_aload_n (pc := 37) 0 d_X12_finds_37 rfl rfl ?_
          refine r_getR (pc := 38) g_X12_90 (K_102 h0) rfl (R_102_47 h0) d_X12_finds_38 ?_
          refine r_aload_n (pc := 41) 0 d_X12_finds_41 rfl rfl ?_
          refine r_getR (pc := 42) g_X12_84 (K_102 h0) rfl (R_102_45 h0) d_X12_finds_42 ?_
          refine r_iload_n (pc := 45) 2 d_X12_finds_45 rfl rfl ?_
          refine r_ck (f := (oI Sh)) rfl (fun hc8 => ?_)
          refine q_iald (pc := 46) (j := v2.toNatClampNeg) (K_197 h0) hc8 rfl d_X12_finds_46 ?_
          refine r_iconst (pc := 47) (1 : Int32) d_X12_finds_47 rfl ?_
          refine r_ck (f := (oI Sh)) rfl (fun hc9 => ?_)
          refine q_zast (pc := 48) (j := (gI D 197 v2.toNatClampNeg).toNatClampNeg) (K_199 h0) hc9 rfl  (by decide) d_X12_finds_48 ?_
          refine r_letD (f := (oI Sh)) (fun D10 => ?_)
          refine r_aload_n (pc := 49) 0 d_X12_finds_49 rfl rfl ?_
          refine r_getR (pc := 50) g_X12_87 (K_102 h0) rfl (R_102_46 h0) d_X12_finds_50 ?_
          refine r_aload_n (pc := 53) 0 d_X12_finds_53 rfl rfl ?_
          refine r_getR (pc := 54) g_X12_84 (K_102 h0) rfl (R_102_45 h0) d_X12_finds_54 ?_
          refine r_iload_n (pc := 57) 2 d_X12_finds_57 rfl rfl ?_
          refine r_ck (f := (oI Sh)) rfl (fun hc11 => ?_)
          refine q_iald (pc := 58) (j := v2.toNatClampNeg) (K_197 h0) hc11 rfl d_X12_finds_58 ?_
          refine r_ck (f := (oI Sh)) rfl (fun hc12 => ?_)
          refine q_iald (pc := 59) (j := (gI D10 197 v2.toNatClampNeg).toNatClampNeg) (K_198 h0) hc12 rfl d_X12_finds_59 ?_
          refine r_iconst (pc := 60) (-1 : Int32) d_X12_finds_60 rfl ?_
          refine r_icmp_eq (f := (oI Sh)) (pc := 61) 85 d_X12_finds_61 (by decide) (fun c13 => ?_) (fun c13 => ?_)
          · refine r_pick [0, 1, 2] (ls' := [(0, .ref 102), (1, .int v1), (2, .int v2)]) rfl ?_
            exact s_X12_finds_85 hst h0 hd f_X12_finds hf_X12_finds v2 D10
          · refine r_aload_n (pc := 64) 0 d_X12_finds_64 rfl rfl ?_
            refine r_aload_n (pc := 65) 0 d_X12_finds_65 rfl rfl ?_
            refine r_getR (pc := 66) g_X12_87 (K_102 h0) rfl (R_102_46 h0) d_X12_finds_66 ?_
            refine r_aload_n (pc := 69) 0 d_X12_finds_69 rfl rfl ?_
            refine r_getR (pc := 70) g_X12_84 (K_102 h0) rfl (R_102_45 h0) d_X12_finds_70 ?_
            refine r_iload_n (pc := 73) 2 d_X12_finds_73 rfl rfl ?_
            refine r_ck (f := (oI Sh)) rfl (fun hc17 => ?_)
            refine q_iald (pc := 74) (j := v2.toNatClampNeg) (K_197 h0) hc17 rfl d_X12_finds_74 ?_
            refine r_ck (f := (oI Sh)) rfl (fun hc18 => ?_)
            refine q_iald (pc := 75) (j := (gI D10 197 v2.toNatClampNeg).toNatClampNeg) (K_198 h0) hc18 rfl d_X12_finds_75 ?_
            refine q_cI (f := (oI Sh)) (av := [.ref 102, .int (gI D10 198 (gI D10 197 v2.toNatClampNeg).toNatClampNeg)]) (st := []) (z_runV ck_X12_finds rfl ml_X12_338 ci_X12_finds cv_X12_finds (K_102 h0) (ci := 12) rfl rfl (Nat.le_of_ble_eq_true rfl) d_X12_finds_76) (hf_X12_finds (gI D10 198 (gI D10 197 v2.toNatClampNeg).toNatClampNeg) D10) kp_I (fun q19 _ => ?_)
            refine r_if_ne (f := (oI Sh)) (pc := 79) 85 d_X12_finds_79 (by decide) (fun c20 => ?_) (fun c20 => ?_)
            · refine r_pick [0, 1, 2] (ls' := [(0, .ref 102), (1, .int v1), (2, .int v2)]) rfl ?_
              exact s_X12_finds_85 hst h0 hd f_X12_finds hf_X12_finds v2 q19.2
            · refine r_goto (pc := 82) 99 d_X12_finds_82 (by decide) ?_
              refine r_iinc (pc := 99) ((v2 + (1 : Int32))) 2 (ls' := [(2, .int (v2 + (1 : Int32))), (0, .ref 102), (1, .int v1)]) d_X12_finds_99 rfl rfl (Nat.le_of_ble_eq_true rfl) rfl ?_
              refine r_goto (pc := 102) 2 d_X12_finds_102 (by decide) ?_
              refine r_pick [1, 2, 0] (ls' := [(0, .ref 102), (1, .int v1), (2, .int (v2 + (1 : Int32)))]) rfl ?_
              exact hk2 (v2 + (1 : Int32)) q19.2 
        · refine r_goto (pc := 34) 99 d_X12_finds_34 (by decide) ?_
          refine r_iinc (pc := 99) ((v2 + (1 : Int32))) 2 (ls' := [(2, .int (v2 + (1 : Int32))), (0, .ref 102), (1, .int v1)]) d_X12_finds_99 rfl rfl (Nat.le_of_ble_eq_true rfl) rfl ?_
          refine r_goto (pc := 102) 2 d_X12_finds_102 (by decide) ?_
          refine r_pick [1, 2, 0] (ls' := [(0, .ref 102), (1, .int v1), (2, .int (v2 + (1 : Int32)))]) rfl ?_
          exact hk2 (v2 + (1 : Int32)) D 
theorem b_X12_finds {X : zX} {Sh : zSh} {d : Nat} (hst : (zl X).stackTraces = false) (h0 : zSh0 Sh) (hd : 1 ≤ d) {v1 : Int32} (f_X12_finds : Int32 → zD → Option (Int32 × zD)) (hf_X12_finds : ∀ (v1 : Int32) (D : zD), Sd X m_X12_finds d [.ref 102, .int v1] (Sh, D) ((oI Sh) (f_X12_finds v1 D))) {D : zD} : Sd X m_X12_finds (d + 1) [.ref 102, .int v1] (Sh, D) ((oI Sh) (fn_X12_finds f_X12_finds v1 D)) := by
  refine z_body ck_X12_finds rfl (Nat.le_of_ble_eq_true rfl) rfl hst ?_
  rw [fn_X12_finds]
  show Rn X m_X12_finds (d + 1) 0 [(0, .ref 102), (1, .int v1)] [] (Sh, D) _
  refine r_iconst (pc := 0) (0 : Int32) d_X12_finds_0 rfl ?_
  refine r_istore_n (pc := 1) (ls' := [(2, .int (0 : Int32)), (0, .ref 102), (1, .int v1)]) d_X12_finds_1 rfl (Nat.le_of_ble_eq_true rfl) rfl ?_
  refine r_pick [1, 2, 0] (ls' := [(0, .ref 102), (1, .int v1), (2, .int (0 : Int32))]) rfl ?_
  exact s_X12_finds_2 hst h0 hd f_X12_finds hf_X12_finds zFU  (0 : Int32) D
def fn_X12_findsR : Nat → Int32 → zD → Option (Int32 × zD)
  | 0, _, _ => none
  | n + 1, v1, D => fn_X12_finds (fn_X12_findsR n) v1 D
theorem s_X12_findsR {X : zX} {Sh : zSh} (hst : (zl X).stackTraces = false) (h0 : zSh0 Sh) : ∀ (n d : Nat) (hd : n * 1 + 1 ≤ d) (v1 : Int32) (D : zD) , Sd X m_X12_finds d [.ref 102, .int v1] (Sh, D) ((oI Sh) (fn_X12_findsR n v1 D))
  | 0, d, _, _, _ => fun o M' h => by cases h
  | n + 1, d, hd, v1, D => by
    obtain ⟨d, rfl⟩ : ∃ e, d = e + 1 := ⟨d - 1, by omega⟩
    exact b_X12_finds hst h0 (by omega) (fn_X12_findsR n) (fun v1 D  => s_X12_findsR hst h0 n d (by omega) v1 D ) 
def fn_X12_findsT (v1 : Int32) (D : zD) : Option (Int32 × zD) := fn_X12_findsR 100 v1 D
theorem s_X12_findsT {X : zX} {Sh : zSh} {d : Nat} (hst : (zl X).stackTraces = false) (h0 : zSh0 Sh) (hd : 101 ≤ d) {v1 : Int32}  {D : zD} : Sd X m_X12_finds d [.ref 102, .int v1] (Sh, D) ((oI Sh) (fn_X12_findsT v1 D)) := s_X12_findsR hst h0 100 d (by omega) v1 D 
/-! CoveredSignsModel.strokes -/
theorem d_X12_strokes_0 : decode (yB m_X12_strokes) 0 = .ok (.aload_n 0, 1) := by decide +kernel
theorem d_X12_strokes_1 : decode (yB m_X12_strokes) 1 = .ok (.iconst 0, 1) := by decide +kernel
theorem d_X12_strokes_2 : decode (yB m_X12_strokes) 2 = .ok (.putfield 113, 3) := by decide +kernel
theorem d_X12_strokes_5 : decode (yB m_X12_strokes) 5 = .ok (.aload_n 0, 1) := by decide +kernel
theorem d_X12_strokes_6 : decode (yB m_X12_strokes) 6 = .ok (.aload_n 0, 1) := by decide +kernel
theorem d_X12_strokes_7 : decode (yB m_X12_strokes) 7 = .ok (.iload_n 1, 1) := by decide +kernel
theorem d_X12_strokes_8 : decode (yB m_X12_strokes) 8 = .ok (.invokevirtual 296, 3) := by decide +kernel
theorem d_X12_strokes_11 : decode (yB m_X12_strokes) 11 = .ok (.ifCond .ne 7, 3) := by decide +kernel
theorem d_X12_strokes_14 : decode (yB m_X12_strokes) 14 = .ok (.iconst 1, 1) := by decide +kernel
theorem d_X12_strokes_15 : decode (yB m_X12_strokes) 15 = .ok (.goto 4, 3) := by decide +kernel
theorem d_X12_strokes_18 : decode (yB m_X12_strokes) 18 = .ok (.iconst 0, 1) := by decide +kernel
theorem d_X12_strokes_19 : decode (yB m_X12_strokes) 19 = .ok (.iconst 1, 1) := by decide +kernel
theorem d_X12_strokes_20 : decode (yB m_X12_strokes) 20 = .ok (.invokevirtual 214, 3) := by decide +kernel
theorem d_X12_strokes_23 : decode (yB m_X12_strokes) 23 = .ok (.ifCond .eq 5, 3) := by decide +kernel
theorem d_X12_strokes_26 : decode (yB m_X12_strokes) 26 = .ok (.iconst 0, 1) := by decide +kernel
theorem d_X12_strokes_27 : decode (yB m_X12_strokes) 27 = .ok (.ireturn, 1) := by decide +kernel
theorem d_X12_strokes_28 : decode (yB m_X12_strokes) 28 = .ok (.iconst 0, 1) := by decide +kernel
theorem d_X12_strokes_29 : decode (yB m_X12_strokes) 29 = .ok (.istore_n 2, 1) := by decide +kernel
theorem d_X12_strokes_30 : decode (yB m_X12_strokes) 30 = .ok (.iload_n 2, 1) := by decide +kernel
theorem d_X12_strokes_31 : decode (yB m_X12_strokes) 31 = .ok (.aload_n 0, 1) := by decide +kernel
theorem d_X12_strokes_32 : decode (yB m_X12_strokes) 32 = .ok (.invokevirtual 242, 3) := by decide +kernel
theorem d_X12_strokes_35 : decode (yB m_X12_strokes) 35 = .ok (.if_icmp .ge 135, 3) := by decide +kernel
theorem d_X12_strokes_38 : decode (yB m_X12_strokes) 38 = .ok (.aload_n 0, 1) := by decide +kernel
theorem d_X12_strokes_39 : decode (yB m_X12_strokes) 39 = .ok (.getfield 26, 3) := by decide +kernel
theorem d_X12_strokes_42 : decode (yB m_X12_strokes) 42 = .ok (.iload_n 1, 1) := by decide +kernel
theorem d_X12_strokes_43 : decode (yB m_X12_strokes) 43 = .ok (.iaload, 1) := by decide +kernel
theorem d_X12_strokes_44 : decode (yB m_X12_strokes) 44 = .ok (.iload_n 2, 1) := by decide +kernel
theorem d_X12_strokes_45 : decode (yB m_X12_strokes) 45 = .ok (.ishr, 1) := by decide +kernel
theorem d_X12_strokes_46 : decode (yB m_X12_strokes) 46 = .ok (.iconst 1, 1) := by decide +kernel
theorem d_X12_strokes_47 : decode (yB m_X12_strokes) 47 = .ok (.iand, 1) := by decide +kernel
theorem d_X12_strokes_48 : decode (yB m_X12_strokes) 48 = .ok (.iconst 1, 1) := by decide +kernel
theorem d_X12_strokes_49 : decode (yB m_X12_strokes) 49 = .ok (.if_icmp .ne 7, 3) := by decide +kernel
theorem d_X12_strokes_52 : decode (yB m_X12_strokes) 52 = .ok (.iconst 1, 1) := by decide +kernel
theorem d_X12_strokes_53 : decode (yB m_X12_strokes) 53 = .ok (.goto 4, 3) := by decide +kernel
theorem d_X12_strokes_56 : decode (yB m_X12_strokes) 56 = .ok (.iconst 0, 1) := by decide +kernel
theorem d_X12_strokes_57 : decode (yB m_X12_strokes) 57 = .ok (.istore_n 3, 1) := by decide +kernel
theorem d_X12_strokes_58 : decode (yB m_X12_strokes) 58 = .ok (.aload_n 0, 1) := by decide +kernel
theorem d_X12_strokes_59 : decode (yB m_X12_strokes) 59 = .ok (.getfield 81, 3) := by decide +kernel
theorem d_X12_strokes_62 : decode (yB m_X12_strokes) 62 = .ok (.iload_n 2, 1) := by decide +kernel
theorem d_X12_strokes_63 : decode (yB m_X12_strokes) 63 = .ok (.iload_n 3, 1) := by decide +kernel
theorem d_X12_strokes_64 : decode (yB m_X12_strokes) 64 = .ok (.ifCond .ne 7, 3) := by decide +kernel
theorem d_X12_strokes_67 : decode (yB m_X12_strokes) 67 = .ok (.iconst (-1), 1) := by decide +kernel
theorem d_X12_strokes_68 : decode (yB m_X12_strokes) 68 = .ok (.goto 36, 3) := by decide +kernel
theorem d_X12_strokes_71 : decode (yB m_X12_strokes) 71 = .ok (.iload_n 2, 1) := by decide +kernel
theorem d_X12_strokes_72 : decode (yB m_X12_strokes) 72 = .ok (.aload_n 0, 1) := by decide +kernel
theorem d_X12_strokes_73 : decode (yB m_X12_strokes) 73 = .ok (.getfield 17, 3) := by decide +kernel
theorem d_X12_strokes_76 : decode (yB m_X12_strokes) 76 = .ok (.irem, 1) := by decide +kernel
theorem d_X12_strokes_77 : decode (yB m_X12_strokes) 77 = .ok (.ifCond .le 26, 3) := by decide +kernel
theorem d_X12_strokes_80 : decode (yB m_X12_strokes) 80 = .ok (.aload_n 0, 1) := by decide +kernel
theorem d_X12_strokes_81 : decode (yB m_X12_strokes) 81 = .ok (.getfield 81, 3) := by decide +kernel
theorem d_X12_strokes_84 : decode (yB m_X12_strokes) 84 = .ok (.iload_n 2, 1) := by decide +kernel
theorem d_X12_strokes_85 : decode (yB m_X12_strokes) 85 = .ok (.iconst 1, 1) := by decide +kernel
theorem d_X12_strokes_86 : decode (yB m_X12_strokes) 86 = .ok (.isub, 1) := by decide +kernel
theorem d_X12_strokes_87 : decode (yB m_X12_strokes) 87 = .ok (.iaload, 1) := by decide +kernel
theorem d_X12_strokes_88 : decode (yB m_X12_strokes) 88 = .ok (.iconst (-1), 1) := by decide +kernel
theorem d_X12_strokes_89 : decode (yB m_X12_strokes) 89 = .ok (.if_icmp .eq 14, 3) := by decide +kernel
theorem d_X12_strokes_92 : decode (yB m_X12_strokes) 92 = .ok (.aload_n 0, 1) := by decide +kernel
theorem d_X12_strokes_93 : decode (yB m_X12_strokes) 93 = .ok (.getfield 81, 3) := by decide +kernel
theorem d_X12_strokes_96 : decode (yB m_X12_strokes) 96 = .ok (.iload_n 2, 1) := by decide +kernel
theorem d_X12_strokes_97 : decode (yB m_X12_strokes) 97 = .ok (.iconst 1, 1) := by decide +kernel
theorem d_X12_strokes_98 : decode (yB m_X12_strokes) 98 = .ok (.isub, 1) := by decide +kernel
theorem d_X12_strokes_99 : decode (yB m_X12_strokes) 99 = .ok (.iaload, 1) := by decide +kernel
theorem d_X12_strokes_100 : decode (yB m_X12_strokes) 100 = .ok (.goto 4, 3) := by decide +kernel
theorem d_X12_strokes_103 : decode (yB m_X12_strokes) 103 = .ok (.iload_n 2, 1) := by decide +kernel
theorem d_X12_strokes_104 : decode (yB m_X12_strokes) 104 = .ok (.iastore, 1) := by decide +kernel
theorem d_X12_strokes_105 : decode (yB m_X12_strokes) 105 = .ok (.aload_n 0, 1) := by decide +kernel
theorem d_X12_strokes_106 : decode (yB m_X12_strokes) 106 = .ok (.getfield 84, 3) := by decide +kernel
theorem d_X12_strokes_109 : decode (yB m_X12_strokes) 109 = .ok (.iload_n 2, 1) := by decide +kernel
theorem d_X12_strokes_110 : decode (yB m_X12_strokes) 110 = .ok (.iload_n 3, 1) := by decide +kernel
theorem d_X12_strokes_111 : decode (yB m_X12_strokes) 111 = .ok (.ifCond .ne 7, 3) := by decide +kernel
theorem d_X12_strokes_114 : decode (yB m_X12_strokes) 114 = .ok (.iconst (-1), 1) := by decide +kernel
theorem d_X12_strokes_115 : decode (yB m_X12_strokes) 115 = .ok (.goto 41, 3) := by decide +kernel
theorem d_X12_strokes_118 : decode (yB m_X12_strokes) 118 = .ok (.iload_n 2, 1) := by decide +kernel
theorem d_X12_strokes_119 : decode (yB m_X12_strokes) 119 = .ok (.aload_n 0, 1) := by decide +kernel
theorem d_X12_strokes_120 : decode (yB m_X12_strokes) 120 = .ok (.getfield 17, 3) := by decide +kernel
theorem d_X12_strokes_123 : decode (yB m_X12_strokes) 123 = .ok (.if_icmp .lt 32, 3) := by decide +kernel
theorem d_X12_strokes_126 : decode (yB m_X12_strokes) 126 = .ok (.aload_n 0, 1) := by decide +kernel
theorem d_X12_strokes_127 : decode (yB m_X12_strokes) 127 = .ok (.getfield 84, 3) := by decide +kernel
theorem d_X12_strokes_130 : decode (yB m_X12_strokes) 130 = .ok (.iload_n 2, 1) := by decide +kernel
theorem d_X12_strokes_131 : decode (yB m_X12_strokes) 131 = .ok (.aload_n 0, 1) := by decide +kernel
theorem d_X12_strokes_132 : decode (yB m_X12_strokes) 132 = .ok (.getfield 17, 3) := by decide +kernel
theorem d_X12_strokes_135 : decode (yB m_X12_strokes) 135 = .ok (.isub, 1) := by decide +kernel
theorem d_X12_strokes_136 : decode (yB m_X12_strokes) 136 = .ok (.iaload, 1) := by decide +kernel
theorem d_X12_strokes_137 : decode (yB m_X12_strokes) 137 = .ok (.iconst (-1), 1) := by decide +kernel
theorem d_X12_strokes_138 : decode (yB m_X12_strokes) 138 = .ok (.if_icmp .eq 17, 3) := by decide +kernel
theorem d_X12_strokes_141 : decode (yB m_X12_strokes) 141 = .ok (.aload_n 0, 1) := by decide +kernel
theorem d_X12_strokes_142 : decode (yB m_X12_strokes) 142 = .ok (.getfield 84, 3) := by decide +kernel
theorem d_X12_strokes_145 : decode (yB m_X12_strokes) 145 = .ok (.iload_n 2, 1) := by decide +kernel
theorem d_X12_strokes_146 : decode (yB m_X12_strokes) 146 = .ok (.aload_n 0, 1) := by decide +kernel
theorem d_X12_strokes_147 : decode (yB m_X12_strokes) 147 = .ok (.getfield 17, 3) := by decide +kernel
theorem d_X12_strokes_150 : decode (yB m_X12_strokes) 150 = .ok (.isub, 1) := by decide +kernel
theorem d_X12_strokes_151 : decode (yB m_X12_strokes) 151 = .ok (.iaload, 1) := by decide +kernel
theorem d_X12_strokes_152 : decode (yB m_X12_strokes) 152 = .ok (.goto 4, 3) := by decide +kernel
theorem d_X12_strokes_155 : decode (yB m_X12_strokes) 155 = .ok (.iload_n 2, 1) := by decide +kernel
theorem d_X12_strokes_156 : decode (yB m_X12_strokes) 156 = .ok (.iastore, 1) := by decide +kernel
theorem d_X12_strokes_157 : decode (yB m_X12_strokes) 157 = .ok (.aload_n 0, 1) := by decide +kernel
theorem d_X12_strokes_158 : decode (yB m_X12_strokes) 158 = .ok (.getfield 87, 3) := by decide +kernel
theorem d_X12_strokes_161 : decode (yB m_X12_strokes) 161 = .ok (.iload_n 2, 1) := by decide +kernel
theorem d_X12_strokes_162 : decode (yB m_X12_strokes) 162 = .ok (.iconst (-1), 1) := by decide +kernel
theorem d_X12_strokes_163 : decode (yB m_X12_strokes) 163 = .ok (.iastore, 1) := by decide +kernel
theorem d_X12_strokes_164 : decode (yB m_X12_strokes) 164 = .ok (.iinc 2 1, 3) := by decide +kernel
theorem d_X12_strokes_167 : decode (yB m_X12_strokes) 167 = .ok (.goto (-137), 3) := by decide +kernel
theorem d_X12_strokes_170 : decode (yB m_X12_strokes) 170 = .ok (.iconst 0, 1) := by decide +kernel
theorem d_X12_strokes_171 : decode (yB m_X12_strokes) 171 = .ok (.istore_n 2, 1) := by decide +kernel
theorem d_X12_strokes_172 : decode (yB m_X12_strokes) 172 = .ok (.iconst 0, 1) := by decide +kernel
theorem d_X12_strokes_173 : decode (yB m_X12_strokes) 173 = .ok (.istore_n 3, 1) := by decide +kernel
theorem d_X12_strokes_174 : decode (yB m_X12_strokes) 174 = .ok (.iload_n 3, 1) := by decide +kernel
theorem d_X12_strokes_175 : decode (yB m_X12_strokes) 175 = .ok (.aload_n 0, 1) := by decide +kernel
theorem d_X12_strokes_176 : decode (yB m_X12_strokes) 176 = .ok (.invokevirtual 242, 3) := by decide +kernel
theorem d_X12_strokes_179 : decode (yB m_X12_strokes) 179 = .ok (.if_icmp .ge 62, 3) := by decide +kernel
theorem d_X12_strokes_182 : decode (yB m_X12_strokes) 182 = .ok (.aload_n 0, 1) := by decide +kernel
theorem d_X12_strokes_183 : decode (yB m_X12_strokes) 183 = .ok (.getfield 81, 3) := by decide +kernel
theorem d_X12_strokes_186 : decode (yB m_X12_strokes) 186 = .ok (.iload_n 3, 1) := by decide +kernel
theorem d_X12_strokes_187 : decode (yB m_X12_strokes) 187 = .ok (.iaload, 1) := by decide +kernel
theorem d_X12_strokes_188 : decode (yB m_X12_strokes) 188 = .ok (.iload_n 3, 1) := by decide +kernel
theorem d_X12_strokes_189 : decode (yB m_X12_strokes) 189 = .ok (.if_icmp .eq 6, 3) := by decide +kernel
theorem d_X12_strokes_192 : decode (yB m_X12_strokes) 192 = .ok (.goto 43, 3) := by decide +kernel
theorem d_X12_strokes_195 : decode (yB m_X12_strokes) 195 = .ok (.iconst 0, 1) := by decide +kernel
theorem d_X12_strokes_196 : decode (yB m_X12_strokes) 196 = .ok (.istore 4, 2) := by decide +kernel
theorem d_X12_strokes_198 : decode (yB m_X12_strokes) 198 = .ok (.iload 4, 2) := by decide +kernel
theorem d_X12_strokes_200 : decode (yB m_X12_strokes) 200 = .ok (.bipush 30, 2) := by decide +kernel
theorem d_X12_strokes_202 : decode (yB m_X12_strokes) 202 = .ok (.if_icmp .ge 17, 3) := by decide +kernel
theorem d_X12_strokes_205 : decode (yB m_X12_strokes) 205 = .ok (.aload_n 0, 1) := by decide +kernel
theorem d_X12_strokes_206 : decode (yB m_X12_strokes) 206 = .ok (.getfield 90, 3) := by decide +kernel
theorem d_X12_strokes_209 : decode (yB m_X12_strokes) 209 = .ok (.iload 4, 2) := by decide +kernel
theorem d_X12_strokes_211 : decode (yB m_X12_strokes) 211 = .ok (.iconst 0, 1) := by decide +kernel
theorem d_X12_strokes_212 : decode (yB m_X12_strokes) 212 = .ok (.bastore, 1) := by decide +kernel
theorem d_X12_strokes_213 : decode (yB m_X12_strokes) 213 = .ok (.iinc 4 1, 3) := by decide +kernel
theorem d_X12_strokes_216 : decode (yB m_X12_strokes) 216 = .ok (.goto (-18), 3) := by decide +kernel
theorem d_X12_strokes_219 : decode (yB m_X12_strokes) 219 = .ok (.iload_n 2, 1) := by decide +kernel
theorem d_X12_strokes_220 : decode (yB m_X12_strokes) 220 = .ok (.aload_n 0, 1) := by decide +kernel
theorem d_X12_strokes_221 : decode (yB m_X12_strokes) 221 = .ok (.iload_n 3, 1) := by decide +kernel
theorem d_X12_strokes_222 : decode (yB m_X12_strokes) 222 = .ok (.invokevirtual 338, 3) := by decide +kernel
theorem d_X12_strokes_225 : decode (yB m_X12_strokes) 225 = .ok (.ifCond .eq 7, 3) := by decide +kernel
theorem d_X12_strokes_228 : decode (yB m_X12_strokes) 228 = .ok (.iconst 1, 1) := by decide +kernel
theorem d_X12_strokes_229 : decode (yB m_X12_strokes) 229 = .ok (.goto 4, 3) := by decide +kernel
theorem d_X12_strokes_232 : decode (yB m_X12_strokes) 232 = .ok (.iconst 0, 1) := by decide +kernel
theorem d_X12_strokes_233 : decode (yB m_X12_strokes) 233 = .ok (.iadd, 1) := by decide +kernel
theorem d_X12_strokes_234 : decode (yB m_X12_strokes) 234 = .ok (.istore_n 2, 1) := by decide +kernel
theorem d_X12_strokes_235 : decode (yB m_X12_strokes) 235 = .ok (.iinc 3 1, 3) := by decide +kernel
theorem d_X12_strokes_238 : decode (yB m_X12_strokes) 238 = .ok (.goto (-64), 3) := by decide +kernel
theorem d_X12_strokes_241 : decode (yB m_X12_strokes) 241 = .ok (.iload_n 2, 1) := by decide +kernel
theorem d_X12_strokes_242 : decode (yB m_X12_strokes) 242 = .ok (.ireturn, 1) := by decide +kernel
def fn_X12_strokes_219 (v1 : Int32) (k174 : Int32 → Int32 → zD → Option (Int32 × zD)) (v2 : Int32) (v3 : Int32) (D : zD) : Option (Int32 × zD) := (fn_X12_findsT v3 D).bind fun q13 => (if q13.1 = 0 then (zlet (v2 + (0 : Int32)) fun x15 => (k174 x15 (v3 + (1 : Int32)) q13.2)) else (zlet (v2 + (1 : Int32)) fun x16 => (k174 x16 (v3 + (1 : Int32)) q13.2)))
def fn_X12_strokes_198 (v1 : Int32) (k174 : Int32 → Int32 → zD → Option (Int32 × zD)) : Nat → Int32 → Int32 → Int32 → zD → Option (Int32 × zD)
  | 0, _, _, _, _ => none
  | n + 1, v2, v3, v4, D => (if (30 : Int32) ≤ v4 then ((fn_X12_strokes_219 v1 k174 v2 v3 D)) else (zck v4 30 <| zlet (sI D 199 v4.toNatClampNeg (0 : Int32)) fun D18 => ((fn_X12_strokes_198 v1 k174 n) v2 v3 (v4 + (1 : Int32)) D18)))
def fn_X12_strokes_174 (v1 : Int32) : Nat → Int32 → Int32 → zD → Option (Int32 × zD)
  | 0, _, _, _ => none
  | n + 1, v2, v3, D => (fn_X12_cells D).bind fun x8 => (if x8 ≤ v3 then ((some (v2, D))) else (zck v3 30 <| (if (gI D 196 v3.toNatClampNeg) = v3 then ((fn_X12_strokes_198 v1 (fn_X12_strokes_174 v1 n) zFU v2 v3 (0 : Int32) D)) else (((fn_X12_strokes_174 v1 n) v2 (v3 + (1 : Int32)) D)))))
def fn_X12_strokes_156 (v1 : Int32) (k30 : Int32 → zD → Option (Int32 × zD)) (v2 : Int32) (w1 : Int32) (w2 : Int32) (D : zD) : Option (Int32 × zD) := zck w1 30 <| zlet (sI D 197 w1.toNatClampNeg w2) fun D28 => zck v2 30 <| zlet (sI D28 198 v2.toNatClampNeg (-1 : Int32)) fun D30 => (k30 (v2 + (1 : Int32)) D30)
def fn_X12_strokes_155 (v1 : Int32) (k30 : Int32 → zD → Option (Int32 × zD)) (v2 : Int32) (w1 : Int32) (D : zD) : Option (Int32 × zD) := (fn_X12_strokes_156 v1 k30 v2 w1 v2 D)
def fn_X12_strokes_104 (v1 : Int32) (k30 : Int32 → zD → Option (Int32 × zD)) (v2 : Int32) (v3 : Int32) (w1 : Int32) (w2 : Int32) (D : zD) : Option (Int32 × zD) := zck w1 30 <| zlet (sI D 196 w1.toNatClampNeg w2) fun D24 => (if v3 = 0 then ((fn_X12_strokes_156 v1 k30 v2 v2 (-1 : Int32) D24)) else ((if v2 < (gI D24 102 14) then ((fn_X12_strokes_155 v1 k30 v2 v2 D24)) else (zck (v2 - (gI D24 102 14)) 30 <| (if (gI D24 197 (v2 - (gI D24 102 14)).toNatClampNeg) = (-1 : Int32) then ((fn_X12_strokes_155 v1 k30 v2 v2 D24)) else (zck (v2 - (gI D24 102 14)) 30 <| (fn_X12_strokes_156 v1 k30 v2 v2 (gI D24 197 (v2 - (gI D24 102 14)).toNatClampNeg) D24)))))))
def fn_X12_strokes_103 (v1 : Int32) (k30 : Int32 → zD → Option (Int32 × zD)) (v2 : Int32) (v3 : Int32) (w1 : Int32) (D : zD) : Option (Int32 × zD) := (fn_X12_strokes_104 v1 k30 v2 v3 w1 v2 D)
def fn_X12_strokes_57 (v1 : Int32) (k30 : Int32 → zD → Option (Int32 × zD)) (v2 : Int32) (w0 : Int32) (D : zD) : Option (Int32 × zD) := (if w0 = 0 then ((fn_X12_strokes_104 v1 k30 v2 w0 v2 (-1 : Int32) D)) else (zdv (gI D 102 14) <| (if (v2 - v2 / (gI D 102 14) * (gI D 102 14)) ≤ 0 then ((fn_X12_strokes_103 v1 k30 v2 w0 v2 D)) else (zck (v2 - (1 : Int32)) 30 <| (if (gI D 196 (v2 - (1 : Int32)).toNatClampNeg) = (-1 : Int32) then ((fn_X12_strokes_103 v1 k30 v2 w0 v2 D)) else (zck (v2 - (1 : Int32)) 30 <| (fn_X12_strokes_104 v1 k30 v2 w0 v2 (gI D 196 (v2 - (1 : Int32)).toNatClampNeg) D)))))))
def fn_X12_strokes_30 (v1 : Int32) : Nat → Int32 → zD → Option (Int32 × zD)
  | 0, _, _ => none
  | n + 1, v2, D => (fn_X12_cells D).bind fun x6 => (if x6 ≤ v2 then ((fn_X12_strokes_174 v1 zFU (0 : Int32) (0 : Int32) D)) else (zck v1 12 <| (if (((gI D 105 v1.toNatClampNeg) >>> (v2 &&& 31)) &&& (1 : Int32)) = (1 : Int32) then ((fn_X12_strokes_57 v1 (fn_X12_strokes_30 v1 n) v2 (1 : Int32) D)) else ((fn_X12_strokes_57 v1 (fn_X12_strokes_30 v1 n) v2 (0 : Int32) D)))))
def fn_X12_strokes_19 (v1 : Int32) (w1 : Int32) (D : zD) : Option (Int32 × zD) := (fn_X12_bad w1 (1 : Int32) D).bind fun q4 => (if q4.1 = 0 then ((fn_X12_strokes_30 v1 zFU (0 : Int32) q4.2)) else ((some ((0 : Int32), q4.2))))
def fn_X12_strokes (v1 : Int32) (D : zD) : Option (Int32 × zD) := zlet (sI D 102 0 (0 : Int32)) fun D1 => (fn_X12_isSign v1 D1).bind fun x2 => (if x2 = 0 then ((fn_X12_strokes_19 v1 (1 : Int32) D1)) else ((fn_X12_strokes_19 v1 (0 : Int32) D1)))
theorem s_X12_strokes_219 {X : zX} {Sh : zSh} {d : Nat} (hst : (zl X).stackTraces = false) (h0 : zSh0 Sh) (hd : 101 ≤ d) {v1 : Int32} (k174 : Int32 → Int32 → zD → Option (Int32 × zD)) (hk174 : ∀ (v2 : Int32) (v3 : Int32) (D : zD) , Rn X m_X12_strokes (d + 1) 174 [(0, .ref 102), (2, .int v2), (3, .int v3)] [] (Sh, D) ((oI Sh) (k174 v2 v3 D))) (v2 : Int32) (v3 : Int32) (D : zD)  : Rn X m_X12_strokes (d + 1) 219 [(0, .ref 102), (2, .int v2), (3, .int v3)] [] (Sh, D) ((oI Sh) (fn_X12_strokes_219 v1 k174 v2 v3 D)) := by
  rw [fn_X12_strokes_219]
  refine r_iload_n (pc := 219) 1 d_X12_strokes_219 rfl rfl ?_
  refine r_aload_n (pc := 220) 0 d_X12_strokes_220 rfl rfl ?_
  refine r_iload_n (pc := 221) 2 d_X12_strokes_221 rfl rfl ?_
  refine q_cI (f := (oI Sh)) (av := [.ref 102, .int v3]) (st := [.int v2]) (z_runV ck_X12_finds rfl ml_X12_338 ci_X12_finds cv_X12_finds (K_102 h0) (ci := 12) rfl rfl (Nat.le_of_ble_eq_true rfl) d_X12_strokes_222) (s_X12_findsT hst h0 (by omega)) kp_I (fun q13 _ => ?_)
  refine r_if_eq (f := (oI Sh)) (pc := 225) 232 d_X12_strokes_225 (by decide) (fun c14 => ?_) (fun c14 => ?_)
  · refine r_iconst (pc := 232) (0 : Int32) d_X12_strokes_232 rfl ?_
    refine r_iadd (pc := 233) d_X12_strokes_233 ?_
    refine r_leti (f := (oI Sh)) (fun x15 => ?_)
    refine r_istore_n (pc := 234) (ls' := [(2, .int x15), (0, .ref 102), (3, .int v3)]) d_X12_strokes_234 rfl (Nat.le_of_ble_eq_true rfl) rfl ?_
    refine r_iinc (pc := 235) ((v3 + (1 : Int32))) 2 (ls' := [(3, .int (v3 + (1 : Int32))), (2, .int x15), (0, .ref 102)]) d_X12_strokes_235 rfl rfl (Nat.le_of_ble_eq_true rfl) rfl ?_
    refine r_goto (pc := 238) 174 d_X12_strokes_238 (by decide) ?_
    refine r_pick [2, 1, 0] (ls' := [(0, .ref 102), (2, .int x15), (3, .int (v3 + (1 : Int32)))]) rfl ?_
    exact hk174 x15 (v3 + (1 : Int32)) q13.2 
  · refine r_iconst (pc := 228) (1 : Int32) d_X12_strokes_228 rfl ?_
    refine r_goto (pc := 229) 233 d_X12_strokes_229 (by decide) ?_
    refine r_iadd (pc := 233) d_X12_strokes_233 ?_
    refine r_leti (f := (oI Sh)) (fun x16 => ?_)
    refine r_istore_n (pc := 234) (ls' := [(2, .int x16), (0, .ref 102), (3, .int v3)]) d_X12_strokes_234 rfl (Nat.le_of_ble_eq_true rfl) rfl ?_
    refine r_iinc (pc := 235) ((v3 + (1 : Int32))) 2 (ls' := [(3, .int (v3 + (1 : Int32))), (2, .int x16), (0, .ref 102)]) d_X12_strokes_235 rfl rfl (Nat.le_of_ble_eq_true rfl) rfl ?_
    refine r_goto (pc := 238) 174 d_X12_strokes_238 (by decide) ?_
    refine r_pick [2, 1, 0] (ls' := [(0, .ref 102), (2, .int x16), (3, .int (v3 + (1 : Int32)))]) rfl ?_
    exact hk174 x16 (v3 + (1 : Int32)) q13.2 
theorem s_X12_strokes_198 {X : zX} {Sh : zSh} {d : Nat} (hst : (zl X).stackTraces = false) (h0 : zSh0 Sh) (hd : 101 ≤ d) {v1 : Int32} (k174 : Int32 → Int32 → zD → Option (Int32 × zD)) (hk174 : ∀ (v2 : Int32) (v3 : Int32) (D : zD) , Rn X m_X12_strokes (d + 1) 174 [(0, .ref 102), (2, .int v2), (3, .int v3)] [] (Sh, D) ((oI Sh) (k174 v2 v3 D))) : ∀ (n : Nat) (v2 : Int32) (v3 : Int32) (v4 : Int32) (D : zD) , Rn X m_X12_strokes (d + 1) 198 [(0, .ref 102), (2, .int v2), (3, .int v3), (4, .int v4)] [] (Sh, D) ((oI Sh) (fn_X12_strokes_198 v1 k174 n v2 v3 v4 D)) := by
  intro n
  induction n with
  | zero => intro v2 v3 v4 D; exact Rn_none rfl
  | succ n hk198 =>
    intro v2 v3 v4 D
    rw [fn_X12_strokes_198]
    refine r_iload (pc := 198) 3 d_X12_strokes_198 rfl ?_
    refine r_bipush (pc := 200) (30 : Int32) d_X12_strokes_200 rfl ?_
    refine r_icmp_ge (f := (oI Sh)) (pc := 202) 219 d_X12_strokes_202 (by decide) (fun c12 => ?_) (fun c12 => ?_)
    · refine r_pick [0, 1, 2] (ls' := [(0, .ref 102), (2, .int v2), (3, .int v3)]) rfl ?_
      exact s_X12_strokes_219 hst h0 hd k174 hk174 v2 v3 D
    · refine r_aload_n (pc := 205) 0 d_X12_strokes_205 rfl rfl ?_
      refine r_getR (pc := 206) g_X12_90 (K_102 h0) rfl (R_102_47 h0) d_X12_strokes_206 ?_
      refine r_iload (pc := 209) 3 d_X12_strokes_209 rfl ?_
      refine r_iconst (pc := 211) (0 : Int32) d_X12_strokes_211 rfl ?_
      refine r_ck (f := (oI Sh)) rfl (fun hc17 => ?_)
      refine q_zast (pc := 212) (j := v4.toNatClampNeg) (K_199 h0) hc17 rfl  (by decide) d_X12_strokes_212 ?_
      refine r_letD (f := (oI Sh)) (fun D18 => ?_)
      refine r_iinc (pc := 213) ((v4 + (1 : Int32))) 3 (ls' := [(4, .int (v4 + (1 : Int32))), (0, .ref 102), (2, .int v2), (3, .int v3)]) d_X12_strokes_213 rfl rfl (Nat.le_of_ble_eq_true rfl) rfl ?_
      refine r_goto (pc := 216) 198 d_X12_strokes_216 (by decide) ?_
      refine r_pick [1, 2, 3, 0] (ls' := [(0, .ref 102), (2, .int v2), (3, .int v3), (4, .int (v4 + (1 : Int32)))]) rfl ?_
      exact hk198 v2 v3 (v4 + (1 : Int32)) D18 
theorem s_X12_strokes_174 {X : zX} {Sh : zSh} {d : Nat} (hst : (zl X).stackTraces = false) (h0 : zSh0 Sh) (hd : 101 ≤ d) {v1 : Int32} : ∀ (n : Nat) (v2 : Int32) (v3 : Int32) (D : zD) , Rn X m_X12_strokes (d + 1) 174 [(0, .ref 102), (2, .int v2), (3, .int v3)] [] (Sh, D) ((oI Sh) (fn_X12_strokes_174 v1 n v2 v3 D)) := by
  intro n
  induction n with
  | zero => intro v2 v3 D; exact Rn_none rfl
  | succ n hk174 =>
    intro v2 v3 D
    rw [fn_X12_strokes_174]
    refine r_iload_n (pc := 174) 2 d_X12_strokes_174 rfl rfl ?_
    refine r_aload_n (pc := 175) 0 d_X12_strokes_175 rfl rfl ?_
    refine q_cP (f := (oI Sh)) (av := [.ref 102]) (st := [.int v3]) (z_runV ck_X12_cells rfl ml_X12_242 ci_X12_cells cv_X12_cells (K_102 h0) (ci := 12) rfl rfl (Nat.le_of_ble_eq_true rfl) d_X12_strokes_176) (s_X12_cells hst h0 (by omega)) kp_I (fun x8 _ => ?_)
    refine r_icmp_ge (f := (oI Sh)) (pc := 179) 241 d_X12_strokes_179 (by decide) (fun c9 => ?_) (fun c9 => ?_)
    · refine r_iload_n (pc := 241) 1 d_X12_strokes_241 rfl rfl ?_
      exact r_iret (pc := 242) rfl d_X12_strokes_242
    · refine r_aload_n (pc := 182) 0 d_X12_strokes_182 rfl rfl ?_
      refine r_getR (pc := 183) g_X12_81 (K_102 h0) rfl (R_102_44 h0) d_X12_strokes_183 ?_
      refine r_iload_n (pc := 186) 2 d_X12_strokes_186 rfl rfl ?_
      refine r_ck (f := (oI Sh)) rfl (fun hc10 => ?_)
      refine q_iald (pc := 187) (j := v3.toNatClampNeg) (K_196 h0) hc10 rfl d_X12_strokes_187 ?_
      refine r_iload_n (pc := 188) 2 d_X12_strokes_188 rfl rfl ?_
      refine r_icmp_eq (f := (oI Sh)) (pc := 189) 195 d_X12_strokes_189 (by decide) (fun c11 => ?_) (fun c11 => ?_)
      · refine r_iconst (pc := 195) (0 : Int32) d_X12_strokes_195 rfl ?_
        refine r_istore (pc := 196) (ls' := [(4, .int (0 : Int32)), (0, .ref 102), (2, .int v2), (3, .int v3)]) d_X12_strokes_196 (Nat.le_of_ble_eq_true rfl) rfl ?_
        refine r_pick [1, 2, 3, 0] (ls' := [(0, .ref 102), (2, .int v2), (3, .int v3), (4, .int (0 : Int32))]) rfl ?_
        exact s_X12_strokes_198 hst h0 hd (fn_X12_strokes_174 v1 n) hk174 zFU  v2 v3 (0 : Int32) D
      · refine r_goto (pc := 192) 235 d_X12_strokes_192 (by decide) ?_
        refine r_iinc (pc := 235) ((v3 + (1 : Int32))) 2 (ls' := [(3, .int (v3 + (1 : Int32))), (0, .ref 102), (2, .int v2)]) d_X12_strokes_235 rfl rfl (Nat.le_of_ble_eq_true rfl) rfl ?_
        refine r_goto (pc := 238) 174 d_X12_strokes_238 (by decide) ?_
        refine r_pick [1, 2, 0] (ls' := [(0, .ref 102), (2, .int v2), (3, .int (v3 + (1 : Int32)))]) rfl ?_
        exact hk174 v2 (v3 + (1 : Int32)) D 
theorem s_X12_strokes_156 {X : zX} {Sh : zSh} {d : Nat} (hst : (zl X).stackTraces = false) (h0 : zSh0 Sh) (hd : 101 ≤ d) {v1 : Int32} (k30 : Int32 → zD → Option (Int32 × zD)) (hk30 : ∀ (v2 : Int32) (D : zD) , Rn X m_X12_strokes (d + 1) 30 [(0, .ref 102), (1, .int v1), (2, .int v2)] [] (Sh, D) ((oI Sh) (k30 v2 D))) (v2 : Int32) (w1 : Int32) (w2 : Int32) (D : zD)  : Rn X m_X12_strokes (d + 1) 156 [(0, .ref 102), (1, .int v1), (2, .int v2)] [.int w2, .int w1, .ref 197] (Sh, D) ((oI Sh) (fn_X12_strokes_156 v1 k30 v2 w1 w2 D)) := by
  rw [fn_X12_strokes_156]
  refine r_ck (f := (oI Sh)) rfl (fun hc27 => ?_)
  refine q_iast (pc := 156) (j := w1.toNatClampNeg) (K_197 h0) hc27 rfl  d_X12_strokes_156 ?_
  refine r_letD (f := (oI Sh)) (fun D28 => ?_)
  refine r_aload_n (pc := 157) 0 d_X12_strokes_157 rfl rfl ?_
  refine r_getR (pc := 158) g_X12_87 (K_102 h0) rfl (R_102_46 h0) d_X12_strokes_158 ?_
  refine r_iload_n (pc := 161) 2 d_X12_strokes_161 rfl rfl ?_
  refine r_iconst (pc := 162) (-1 : Int32) d_X12_strokes_162 rfl ?_
  refine r_ck (f := (oI Sh)) rfl (fun hc29 => ?_)
  refine q_iast (pc := 163) (j := v2.toNatClampNeg) (K_198 h0) hc29 rfl  d_X12_strokes_163 ?_
  refine r_letD (f := (oI Sh)) (fun D30 => ?_)
  refine r_iinc (pc := 164) ((v2 + (1 : Int32))) 2 (ls' := [(2, .int (v2 + (1 : Int32))), (0, .ref 102), (1, .int v1)]) d_X12_strokes_164 rfl rfl (Nat.le_of_ble_eq_true rfl) rfl ?_
  refine r_goto (pc := 167) 30 d_X12_strokes_167 (by decide) ?_
  refine r_pick [1, 2, 0] (ls' := [(0, .ref 102), (1, .int v1), (2, .int (v2 + (1 : Int32)))]) rfl ?_
  exact hk30 (v2 + (1 : Int32)) D30 
theorem s_X12_strokes_155 {X : zX} {Sh : zSh} {d : Nat} (hst : (zl X).stackTraces = false) (h0 : zSh0 Sh) (hd : 101 ≤ d) {v1 : Int32} (k30 : Int32 → zD → Option (Int32 × zD)) (hk30 : ∀ (v2 : Int32) (D : zD) , Rn X m_X12_strokes (d + 1) 30 [(0, .ref 102), (1, .int v1), (2, .int v2)] [] (Sh, D) ((oI Sh) (k30 v2 D))) (v2 : Int32) (w1 : Int32) (D : zD)  : Rn X m_X12_strokes (d + 1) 155 [(0, .ref 102), (1, .int v1), (2, .int v2)] [.int w1, .ref 197] (Sh, D) ((oI Sh) (fn_X12_strokes_155 v1 k30 v2 w1 D)) := by
  rw [fn_X12_strokes_155]
  refine r_iload_n (pc := 155) 2 d_X12_strokes_155 rfl rfl ?_
  refine r_pick [0, 1, 2] (ls' := [(0, .ref 102), (1, .int v1), (2, .int v2)]) rfl ?_
  exact s_X12_strokes_156 hst h0 hd k30 hk30 v2 w1 v2 D
theorem s_X12_strokes_104 {X : zX} {Sh : zSh} {d : Nat} (hst : (zl X).stackTraces = false) (h0 : zSh0 Sh) (hd : 101 ≤ d) {v1 : Int32} (k30 : Int32 → zD → Option (Int32 × zD)) (hk30 : ∀ (v2 : Int32) (D : zD) , Rn X m_X12_strokes (d + 1) 30 [(0, .ref 102), (1, .int v1), (2, .int v2)] [] (Sh, D) ((oI Sh) (k30 v2 D))) (v2 : Int32) (v3 : Int32) (w1 : Int32) (w2 : Int32) (D : zD)  : Rn X m_X12_strokes (d + 1) 104 [(0, .ref 102), (1, .int v1), (2, .int v2), (3, .int v3)] [.int w2, .int w1, .ref 196] (Sh, D) ((oI Sh) (fn_X12_strokes_104 v1 k30 v2 v3 w1 w2 D)) := by
  rw [fn_X12_strokes_104]
  refine r_ck (f := (oI Sh)) rfl (fun hc23 => ?_)
  refine q_iast (pc := 104) (j := w1.toNatClampNeg) (K_196 h0) hc23 rfl  d_X12_strokes_104 ?_
  refine r_letD (f := (oI Sh)) (fun D24 => ?_)
  refine r_aload_n (pc := 105) 0 d_X12_strokes_105 rfl rfl ?_
  refine r_getR (pc := 106) g_X12_84 (K_102 h0) rfl (R_102_45 h0) d_X12_strokes_106 ?_
  refine r_iload_n (pc := 109) 2 d_X12_strokes_109 rfl rfl ?_
  refine r_iload_n (pc := 110) 3 d_X12_strokes_110 rfl rfl ?_
  refine r_if_ne (f := (oI Sh)) (pc := 111) 118 d_X12_strokes_111 (by decide) (fun c25 => ?_) (fun c25 => ?_)
  · refine r_iload_n (pc := 118) 2 d_X12_strokes_118 rfl rfl ?_
    refine r_aload_n (pc := 119) 0 d_X12_strokes_119 rfl rfl ?_
    refine q_gI (pc := 120) g_X12_17 (K_102 h0) rfl d_X12_strokes_120 ?_
    refine r_icmp_lt (f := (oI Sh)) (pc := 123) 155 d_X12_strokes_123 (by decide) (fun c26 => ?_) (fun c26 => ?_)
    · refine r_pick [0, 1, 2] (ls' := [(0, .ref 102), (1, .int v1), (2, .int v2)]) rfl ?_
      exact s_X12_strokes_155 hst h0 hd k30 hk30 v2 v2 D24
    · refine r_aload_n (pc := 126) 0 d_X12_strokes_126 rfl rfl ?_
      refine r_getR (pc := 127) g_X12_84 (K_102 h0) rfl (R_102_45 h0) d_X12_strokes_127 ?_
      refine r_iload_n (pc := 130) 2 d_X12_strokes_130 rfl rfl ?_
      refine r_aload_n (pc := 131) 0 d_X12_strokes_131 rfl rfl ?_
      refine q_gI (pc := 132) g_X12_17 (K_102 h0) rfl d_X12_strokes_132 ?_
      refine r_isub (pc := 135) d_X12_strokes_135 ?_
      refine r_ck (f := (oI Sh)) rfl (fun hc31 => ?_)
      refine q_iald (pc := 136) (j := (v2 - (gI D24 102 14)).toNatClampNeg) (K_197 h0) hc31 rfl d_X12_strokes_136 ?_
      refine r_iconst (pc := 137) (-1 : Int32) d_X12_strokes_137 rfl ?_
      refine r_icmp_eq (f := (oI Sh)) (pc := 138) 155 d_X12_strokes_138 (by decide) (fun c32 => ?_) (fun c32 => ?_)
      · refine r_pick [0, 1, 2] (ls' := [(0, .ref 102), (1, .int v1), (2, .int v2)]) rfl ?_
        exact s_X12_strokes_155 hst h0 hd k30 hk30 v2 v2 D24
      · refine r_aload_n (pc := 141) 0 d_X12_strokes_141 rfl rfl ?_
        refine r_getR (pc := 142) g_X12_84 (K_102 h0) rfl (R_102_45 h0) d_X12_strokes_142 ?_
        refine r_iload_n (pc := 145) 2 d_X12_strokes_145 rfl rfl ?_
        refine r_aload_n (pc := 146) 0 d_X12_strokes_146 rfl rfl ?_
        refine q_gI (pc := 147) g_X12_17 (K_102 h0) rfl d_X12_strokes_147 ?_
        refine r_isub (pc := 150) d_X12_strokes_150 ?_
        refine r_ck (f := (oI Sh)) rfl (fun hc33 => ?_)
        refine q_iald (pc := 151) (j := (v2 - (gI D24 102 14)).toNatClampNeg) (K_197 h0) hc33 rfl d_X12_strokes_151 ?_
        refine r_goto (pc := 152) 156 d_X12_strokes_152 (by decide) ?_
        refine r_pick [0, 1, 2] (ls' := [(0, .ref 102), (1, .int v1), (2, .int v2)]) rfl ?_
        exact s_X12_strokes_156 hst h0 hd k30 hk30 v2 v2 (gI D24 197 (v2 - (gI D24 102 14)).toNatClampNeg) D24
  · refine r_iconst (pc := 114) (-1 : Int32) d_X12_strokes_114 rfl ?_
    refine r_goto (pc := 115) 156 d_X12_strokes_115 (by decide) ?_
    refine r_pick [0, 1, 2] (ls' := [(0, .ref 102), (1, .int v1), (2, .int v2)]) rfl ?_
    exact s_X12_strokes_156 hst h0 hd k30 hk30 v2 v2 (-1 : Int32) D24
theorem s_X12_strokes_103 {X : zX} {Sh : zSh} {d : Nat} (hst : (zl X).stackTraces = false) (h0 : zSh0 Sh) (hd : 101 ≤ d) {v1 : Int32} (k30 : Int32 → zD → Option (Int32 × zD)) (hk30 : ∀ (v2 : Int32) (D : zD) , Rn X m_X12_strokes (d + 1) 30 [(0, .ref 102), (1, .int v1), (2, .int v2)] [] (Sh, D) ((oI Sh) (k30 v2 D))) (v2 : Int32) (v3 : Int32) (w1 : Int32) (D : zD)  : Rn X m_X12_strokes (d + 1) 103 [(0, .ref 102), (1, .int v1), (2, .int v2), (3, .int v3)] [.int w1, .ref 196] (Sh, D) ((oI Sh) (fn_X12_strokes_103 v1 k30 v2 v3 w1 D)) := by
  rw [fn_X12_strokes_103]
  refine r_iload_n (pc := 103) 2 d_X12_strokes_103 rfl rfl ?_
  refine r_pick [0, 1, 2, 3] (ls' := [(0, .ref 102), (1, .int v1), (2, .int v2), (3, .int v3)]) rfl ?_
  exact s_X12_strokes_104 hst h0 hd k30 hk30 v2 v3 w1 v2 D
theorem s_X12_strokes_57 {X : zX} {Sh : zSh} {d : Nat} (hst : (zl X).stackTraces = false) (h0 : zSh0 Sh) (hd : 101 ≤ d) {v1 : Int32} (k30 : Int32 → zD → Option (Int32 × zD)) (hk30 : ∀ (v2 : Int32) (D : zD) , Rn X m_X12_strokes (d + 1) 30 [(0, .ref 102), (1, .int v1), (2, .int v2)] [] (Sh, D) ((oI Sh) (k30 v2 D))) (v2 : Int32) (w0 : Int32) (D : zD)  : Rn X m_X12_strokes (d + 1) 57 [(0, .ref 102), (1, .int v1), (2, .int v2)] [.int w0] (Sh, D) ((oI Sh) (fn_X12_strokes_57 v1 k30 v2 w0 D)) := by
  rw [fn_X12_strokes_57]
  refine r_istore_n (pc := 57) (ls' := [(3, .int w0), (0, .ref 102), (1, .int v1), (2, .int v2)]) d_X12_strokes_57 rfl (Nat.le_of_ble_eq_true rfl) rfl ?_
  refine r_aload_n (pc := 58) 1 d_X12_strokes_58 rfl rfl ?_
  refine r_getR (pc := 59) g_X12_81 (K_102 h0) rfl (R_102_44 h0) d_X12_strokes_59 ?_
  refine r_iload_n (pc := 62) 3 d_X12_strokes_62 rfl rfl ?_
  refine r_iload_n (pc := 63) 0 d_X12_strokes_63 rfl rfl ?_
  refine r_if_ne (f := (oI Sh)) (pc := 64) 71 d_X12_strokes_64 (by decide) (fun c21 => ?_) (fun c21 => ?_)
  · refine r_iload_n (pc := 71) 3 d_X12_strokes_71 rfl rfl ?_
    refine r_aload_n (pc := 72) 1 d_X12_strokes_72 rfl rfl ?_
    refine q_gI (pc := 73) g_X12_17 (K_102 h0) rfl d_X12_strokes_73 ?_
    refine r_irem (f := (oI Sh)) (pc := 76) d_X12_strokes_76 rfl ?_
    refine r_if_le (f := (oI Sh)) (pc := 77) 103 d_X12_strokes_77 (by decide) (fun c22 => ?_) (fun c22 => ?_)
    · refine r_pick [1, 2, 3, 0] (ls' := [(0, .ref 102), (1, .int v1), (2, .int v2), (3, .int w0)]) rfl ?_
      exact s_X12_strokes_103 hst h0 hd k30 hk30 v2 w0 v2 D
    · refine r_aload_n (pc := 80) 1 d_X12_strokes_80 rfl rfl ?_
      refine r_getR (pc := 81) g_X12_81 (K_102 h0) rfl (R_102_44 h0) d_X12_strokes_81 ?_
      refine r_iload_n (pc := 84) 3 d_X12_strokes_84 rfl rfl ?_
      refine r_iconst (pc := 85) (1 : Int32) d_X12_strokes_85 rfl ?_
      refine r_isub (pc := 86) d_X12_strokes_86 ?_
      refine r_ck (f := (oI Sh)) rfl (fun hc34 => ?_)
      refine q_iald (pc := 87) (j := (v2 - (1 : Int32)).toNatClampNeg) (K_196 h0) hc34 rfl d_X12_strokes_87 ?_
      refine r_iconst (pc := 88) (-1 : Int32) d_X12_strokes_88 rfl ?_
      refine r_icmp_eq (f := (oI Sh)) (pc := 89) 103 d_X12_strokes_89 (by decide) (fun c35 => ?_) (fun c35 => ?_)
      · refine r_pick [1, 2, 3, 0] (ls' := [(0, .ref 102), (1, .int v1), (2, .int v2), (3, .int w0)]) rfl ?_
        exact s_X12_strokes_103 hst h0 hd k30 hk30 v2 w0 v2 D
      · refine r_aload_n (pc := 92) 1 d_X12_strokes_92 rfl rfl ?_
        refine r_getR (pc := 93) g_X12_81 (K_102 h0) rfl (R_102_44 h0) d_X12_strokes_93 ?_
        refine r_iload_n (pc := 96) 3 d_X12_strokes_96 rfl rfl ?_
        refine r_iconst (pc := 97) (1 : Int32) d_X12_strokes_97 rfl ?_
        refine r_isub (pc := 98) d_X12_strokes_98 ?_
        refine r_ck (f := (oI Sh)) rfl (fun hc36 => ?_)
        refine q_iald (pc := 99) (j := (v2 - (1 : Int32)).toNatClampNeg) (K_196 h0) hc36 rfl d_X12_strokes_99 ?_
        refine r_goto (pc := 100) 104 d_X12_strokes_100 (by decide) ?_
        refine r_pick [1, 2, 3, 0] (ls' := [(0, .ref 102), (1, .int v1), (2, .int v2), (3, .int w0)]) rfl ?_
        exact s_X12_strokes_104 hst h0 hd k30 hk30 v2 w0 v2 (gI D 196 (v2 - (1 : Int32)).toNatClampNeg) D
  · refine r_iconst (pc := 67) (-1 : Int32) d_X12_strokes_67 rfl ?_
    refine r_goto (pc := 68) 104 d_X12_strokes_68 (by decide) ?_
    refine r_pick [1, 2, 3, 0] (ls' := [(0, .ref 102), (1, .int v1), (2, .int v2), (3, .int w0)]) rfl ?_
    exact s_X12_strokes_104 hst h0 hd k30 hk30 v2 w0 v2 (-1 : Int32) D
theorem s_X12_strokes_30 {X : zX} {Sh : zSh} {d : Nat} (hst : (zl X).stackTraces = false) (h0 : zSh0 Sh) (hd : 101 ≤ d) {v1 : Int32} : ∀ (n : Nat) (v2 : Int32) (D : zD) , Rn X m_X12_strokes (d + 1) 30 [(0, .ref 102), (1, .int v1), (2, .int v2)] [] (Sh, D) ((oI Sh) (fn_X12_strokes_30 v1 n v2 D)) := by
  intro n
  induction n with
  | zero => intro v2 D; exact Rn_none rfl
  | succ n hk30 =>
    intro v2 D
    rw [fn_X12_strokes_30]
    refine r_iload_n (pc := 30) 2 d_X12_strokes_30 rfl rfl ?_
    refine r_aload_n (pc := 31) 0 d_X12_strokes_31 rfl rfl ?_
    refine q_cP (f := (oI Sh)) (av := [.ref 102]) (st := [.int v2]) (z_runV ck_X12_cells rfl ml_X12_242 ci_X12_cells cv_X12_cells (K_102 h0) (ci := 12) rfl rfl (Nat.le_of_ble_eq_true rfl) d_X12_strokes_32) (s_X12_cells hst h0 (by omega)) kp_I (fun x6 _ => ?_)
    refine r_icmp_ge (f := (oI Sh)) (pc := 35) 170 d_X12_strokes_35 (by decide) (fun c7 => ?_) (fun c7 => ?_)
    · refine r_iconst (pc := 170) (0 : Int32) d_X12_strokes_170 rfl ?_
      refine r_istore_n (pc := 171) (ls' := [(2, .int (0 : Int32)), (0, .ref 102), (1, .int v1)]) d_X12_strokes_171 rfl (Nat.le_of_ble_eq_true rfl) rfl ?_
      refine r_iconst (pc := 172) (0 : Int32) d_X12_strokes_172 rfl ?_
      refine r_istore_n (pc := 173) (ls' := [(3, .int (0 : Int32)), (2, .int (0 : Int32)), (0, .ref 102), (1, .int v1)]) d_X12_strokes_173 rfl (Nat.le_of_ble_eq_true rfl) rfl ?_
      refine r_pick [2, 1, 0] (ls' := [(0, .ref 102), (2, .int (0 : Int32)), (3, .int (0 : Int32))]) rfl ?_
      exact s_X12_strokes_174 hst h0 hd zFU  (0 : Int32) (0 : Int32) D
    · refine r_aload_n (pc := 38) 0 d_X12_strokes_38 rfl rfl ?_
      refine r_getR (pc := 39) g_X12_26 (K_102 h0) rfl (R_102_19 h0) d_X12_strokes_39 ?_
      refine r_iload_n (pc := 42) 1 d_X12_strokes_42 rfl rfl ?_
      refine r_ck (f := (oI Sh)) rfl (fun hc19 => ?_)
      refine q_iald (pc := 43) (j := v1.toNatClampNeg) (K_105 h0) hc19 rfl d_X12_strokes_43 ?_
      refine r_iload_n (pc := 44) 2 d_X12_strokes_44 rfl rfl ?_
      refine r_ishr (pc := 45) d_X12_strokes_45 ?_
      refine r_iconst (pc := 46) (1 : Int32) d_X12_strokes_46 rfl ?_
      refine r_iand (pc := 47) d_X12_strokes_47 ?_
      refine r_iconst (pc := 48) (1 : Int32) d_X12_strokes_48 rfl ?_
      refine r_icmp_ne (f := (oI Sh)) (pc := 49) 56 d_X12_strokes_49 (by decide) (fun c20 => ?_) (fun c20 => ?_)
      · refine r_iconst (pc := 56) (0 : Int32) d_X12_strokes_56 rfl ?_
        refine r_pick [0, 1, 2] (ls' := [(0, .ref 102), (1, .int v1), (2, .int v2)]) rfl ?_
        exact s_X12_strokes_57 hst h0 hd (fn_X12_strokes_30 v1 n) hk30 v2 (0 : Int32) D
      · refine r_iconst (pc := 52) (1 : Int32) d_X12_strokes_52 rfl ?_
        refine r_goto (pc := 53) 57 d_X12_strokes_53 (by decide) ?_
        refine r_pick [0, 1, 2] (ls' := [(0, .ref 102), (1, .int v1), (2, .int v2)]) rfl ?_
        exact s_X12_strokes_57 hst h0 hd (fn_X12_strokes_30 v1 n) hk30 v2 (1 : Int32) D
theorem s_X12_strokes_19 {X : zX} {Sh : zSh} {d : Nat} (hst : (zl X).stackTraces = false) (h0 : zSh0 Sh) (hd : 101 ≤ d) {v1 : Int32} (w1 : Int32) (D : zD)  : Rn X m_X12_strokes (d + 1) 19 [(0, .ref 102), (1, .int v1)] [.int w1, .ref 102] (Sh, D) ((oI Sh) (fn_X12_strokes_19 v1 w1 D)) := by
  rw [fn_X12_strokes_19]
  refine r_iconst (pc := 19) (1 : Int32) d_X12_strokes_19 rfl ?_
  refine q_cI (f := (oI Sh)) (av := [.ref 102, .int w1, .int (1 : Int32)]) (st := []) (z_runV ck_X12_bad rfl ml_X12_214 ci_X12_bad cv_X12_bad (K_102 h0) (ci := 12) rfl rfl (Nat.le_of_ble_eq_true rfl) d_X12_strokes_20) (s_X12_bad hst h0 (by omega)) kp_I (fun q4 _ => ?_)
  refine r_if_eq (f := (oI Sh)) (pc := 23) 28 d_X12_strokes_23 (by decide) (fun c5 => ?_) (fun c5 => ?_)
  · refine r_iconst (pc := 28) (0 : Int32) d_X12_strokes_28 rfl ?_
    refine r_istore_n (pc := 29) (ls' := [(2, .int (0 : Int32)), (0, .ref 102), (1, .int v1)]) d_X12_strokes_29 rfl (Nat.le_of_ble_eq_true rfl) rfl ?_
    refine r_pick [1, 2, 0] (ls' := [(0, .ref 102), (1, .int v1), (2, .int (0 : Int32))]) rfl ?_
    exact s_X12_strokes_30 hst h0 hd zFU  (0 : Int32) q4.2
  · refine r_iconst (pc := 26) (0 : Int32) d_X12_strokes_26 rfl ?_
    exact r_iret (pc := 27) rfl d_X12_strokes_27
theorem s_X12_strokes {X : zX} {Sh : zSh} {d : Nat} (hst : (zl X).stackTraces = false) (h0 : zSh0 Sh) (hd : 102 ≤ d) {v1 : Int32} {D : zD} : Sd X m_X12_strokes d [.ref 102, .int v1] (Sh, D) ((oI Sh) (fn_X12_strokes v1 D)) := by
  obtain ⟨d, rfl⟩ : ∃ e, d = e + 1 := ⟨d - 1, by omega⟩
  replace hd : 101 ≤ d := by omega
  refine z_body ck_X12_strokes rfl (Nat.le_of_ble_eq_true rfl) rfl hst ?_
  rw [fn_X12_strokes]
  show Rn X m_X12_strokes (d + 1) 0 [(0, .ref 102), (1, .int v1)] [] (Sh, D) _
  refine r_aload_n (pc := 0) 0 d_X12_strokes_0 rfl rfl ?_
  refine r_iconst (pc := 1) (0 : Int32) d_X12_strokes_1 rfl ?_
  refine r_putI (pc := 2) p_X12_113 (K_102 h0) rfl (Or.inl rfl) d_X12_strokes_2 ?_
  refine r_letD (f := (oI Sh)) (fun D1 => ?_)
  refine r_aload_n (pc := 5) 0 d_X12_strokes_5 rfl rfl ?_
  refine r_aload_n (pc := 6) 0 d_X12_strokes_6 rfl rfl ?_
  refine r_iload_n (pc := 7) 1 d_X12_strokes_7 rfl rfl ?_
  refine q_cP (f := (oI Sh)) (av := [.ref 102, .int v1]) (st := [.ref 102]) (z_runV ck_X12_isSign rfl ml_X12_296 ci_X12_isSign cv_X12_isSign (K_102 h0) (ci := 12) rfl rfl (Nat.le_of_ble_eq_true rfl) d_X12_strokes_8) (s_X12_isSign hst h0 (by omega)) kp_I (fun x2 _ => ?_)
  refine r_if_ne (f := (oI Sh)) (pc := 11) 18 d_X12_strokes_11 (by decide) (fun c3 => ?_) (fun c3 => ?_)
  · refine r_iconst (pc := 18) (0 : Int32) d_X12_strokes_18 rfl ?_
    refine r_pick [0, 1] (ls' := [(0, .ref 102), (1, .int v1)]) rfl ?_
    exact s_X12_strokes_19 hst h0 hd (0 : Int32) D1
  · refine r_iconst (pc := 14) (1 : Int32) d_X12_strokes_14 rfl ?_
    refine r_goto (pc := 15) 19 d_X12_strokes_15 (by decide) ?_
    refine r_pick [0, 1] (ls' := [(0, .ref 102), (1, .int v1)]) rfl ?_
    exact s_X12_strokes_19 hst h0 hd (1 : Int32) D1
/-! CoveredSignsModel.akin -/
theorem d_X12_akin_0 : decode (yB m_X12_akin) 0 = .ok (.aload_n 0, 1) := by decide +kernel
theorem d_X12_akin_1 : decode (yB m_X12_akin) 1 = .ok (.iconst 0, 1) := by decide +kernel
theorem d_X12_akin_2 : decode (yB m_X12_akin) 2 = .ok (.putfield 113, 3) := by decide +kernel
theorem d_X12_akin_5 : decode (yB m_X12_akin) 5 = .ok (.aload_n 0, 1) := by decide +kernel
theorem d_X12_akin_6 : decode (yB m_X12_akin) 6 = .ok (.iload_n 1, 1) := by decide +kernel
theorem d_X12_akin_7 : decode (yB m_X12_akin) 7 = .ok (.iconst 0, 1) := by decide +kernel
theorem d_X12_akin_8 : decode (yB m_X12_akin) 8 = .ok (.iconst 3, 1) := by decide +kernel
theorem d_X12_akin_9 : decode (yB m_X12_akin) 9 = .ok (.invokestatic 147, 3) := by decide +kernel
theorem d_X12_akin_12 : decode (yB m_X12_akin) 12 = .ok (.ifCond .eq 12, 3) := by decide +kernel
theorem d_X12_akin_15 : decode (yB m_X12_akin) 15 = .ok (.iload_n 2, 1) := by decide +kernel
theorem d_X12_akin_16 : decode (yB m_X12_akin) 16 = .ok (.iconst 0, 1) := by decide +kernel
theorem d_X12_akin_17 : decode (yB m_X12_akin) 17 = .ok (.iconst 1, 1) := by decide +kernel
theorem d_X12_akin_18 : decode (yB m_X12_akin) 18 = .ok (.invokestatic 147, 3) := by decide +kernel
theorem d_X12_akin_21 : decode (yB m_X12_akin) 21 = .ok (.ifCond .ne 7, 3) := by decide +kernel
theorem d_X12_akin_24 : decode (yB m_X12_akin) 24 = .ok (.iconst 1, 1) := by decide +kernel
theorem d_X12_akin_25 : decode (yB m_X12_akin) 25 = .ok (.goto 4, 3) := by decide +kernel
theorem d_X12_akin_28 : decode (yB m_X12_akin) 28 = .ok (.iconst 0, 1) := by decide +kernel
theorem d_X12_akin_29 : decode (yB m_X12_akin) 29 = .ok (.iconst 1, 1) := by decide +kernel
theorem d_X12_akin_30 : decode (yB m_X12_akin) 30 = .ok (.invokevirtual 214, 3) := by decide +kernel
theorem d_X12_akin_33 : decode (yB m_X12_akin) 33 = .ok (.ifCond .eq 5, 3) := by decide +kernel
theorem d_X12_akin_36 : decode (yB m_X12_akin) 36 = .ok (.iconst 0, 1) := by decide +kernel
theorem d_X12_akin_37 : decode (yB m_X12_akin) 37 = .ok (.ireturn, 1) := by decide +kernel
theorem d_X12_akin_38 : decode (yB m_X12_akin) 38 = .ok (.iconst (-1), 1) := by decide +kernel
theorem d_X12_akin_39 : decode (yB m_X12_akin) 39 = .ok (.istore_n 3, 1) := by decide +kernel
theorem d_X12_akin_40 : decode (yB m_X12_akin) 40 = .ok (.iconst (-1), 1) := by decide +kernel
theorem d_X12_akin_41 : decode (yB m_X12_akin) 41 = .ok (.istore 4, 2) := by decide +kernel
theorem d_X12_akin_43 : decode (yB m_X12_akin) 43 = .ok (.iconst 0, 1) := by decide +kernel
theorem d_X12_akin_44 : decode (yB m_X12_akin) 44 = .ok (.istore 5, 2) := by decide +kernel
theorem d_X12_akin_46 : decode (yB m_X12_akin) 46 = .ok (.iload 5, 2) := by decide +kernel
theorem d_X12_akin_48 : decode (yB m_X12_akin) 48 = .ok (.aload_n 0, 1) := by decide +kernel
theorem d_X12_akin_49 : decode (yB m_X12_akin) 49 = .ok (.getfield 224, 3) := by decide +kernel
theorem d_X12_akin_52 : decode (yB m_X12_akin) 52 = .ok (.if_icmp .ge 107, 3) := by decide +kernel
theorem d_X12_akin_55 : decode (yB m_X12_akin) 55 = .ok (.iload 5, 2) := by decide +kernel
theorem d_X12_akin_57 : decode (yB m_X12_akin) 57 = .ok (.iconst 1, 1) := by decide +kernel
theorem d_X12_akin_58 : decode (yB m_X12_akin) 58 = .ok (.iadd, 1) := by decide +kernel
theorem d_X12_akin_59 : decode (yB m_X12_akin) 59 = .ok (.istore 6, 2) := by decide +kernel
theorem d_X12_akin_61 : decode (yB m_X12_akin) 61 = .ok (.iload 6, 2) := by decide +kernel
theorem d_X12_akin_63 : decode (yB m_X12_akin) 63 = .ok (.aload_n 0, 1) := by decide +kernel
theorem d_X12_akin_64 : decode (yB m_X12_akin) 64 = .ok (.getfield 224, 3) := by decide +kernel
theorem d_X12_akin_67 : decode (yB m_X12_akin) 67 = .ok (.if_icmp .ge 86, 3) := by decide +kernel
theorem d_X12_akin_70 : decode (yB m_X12_akin) 70 = .ok (.aload_n 0, 1) := by decide +kernel
theorem d_X12_akin_71 : decode (yB m_X12_akin) 71 = .ok (.getfield 32, 3) := by decide +kernel
theorem d_X12_akin_74 : decode (yB m_X12_akin) 74 = .ok (.iload 5, 2) := by decide +kernel
theorem d_X12_akin_76 : decode (yB m_X12_akin) 76 = .ok (.iaload, 1) := by decide +kernel
theorem d_X12_akin_77 : decode (yB m_X12_akin) 77 = .ok (.iload_n 1, 1) := by decide +kernel
theorem d_X12_akin_78 : decode (yB m_X12_akin) 78 = .ok (.if_icmp .ne 69, 3) := by decide +kernel
theorem d_X12_akin_81 : decode (yB m_X12_akin) 81 = .ok (.aload_n 0, 1) := by decide +kernel
theorem d_X12_akin_82 : decode (yB m_X12_akin) 82 = .ok (.getfield 32, 3) := by decide +kernel
theorem d_X12_akin_85 : decode (yB m_X12_akin) 85 = .ok (.iload 6, 2) := by decide +kernel
theorem d_X12_akin_87 : decode (yB m_X12_akin) 87 = .ok (.iaload, 1) := by decide +kernel
theorem d_X12_akin_88 : decode (yB m_X12_akin) 88 = .ok (.iload_n 1, 1) := by decide +kernel
theorem d_X12_akin_89 : decode (yB m_X12_akin) 89 = .ok (.if_icmp .ne 58, 3) := by decide +kernel
theorem d_X12_akin_92 : decode (yB m_X12_akin) 92 = .ok (.aload_n 0, 1) := by decide +kernel
theorem d_X12_akin_93 : decode (yB m_X12_akin) 93 = .ok (.getfield 26, 3) := by decide +kernel
theorem d_X12_akin_96 : decode (yB m_X12_akin) 96 = .ok (.iload 5, 2) := by decide +kernel
theorem d_X12_akin_98 : decode (yB m_X12_akin) 98 = .ok (.iaload, 1) := by decide +kernel
theorem d_X12_akin_99 : decode (yB m_X12_akin) 99 = .ok (.aload_n 0, 1) := by decide +kernel
theorem d_X12_akin_100 : decode (yB m_X12_akin) 100 = .ok (.getfield 26, 3) := by decide +kernel
theorem d_X12_akin_103 : decode (yB m_X12_akin) 103 = .ok (.iload 6, 2) := by decide +kernel
theorem d_X12_akin_105 : decode (yB m_X12_akin) 105 = .ok (.iaload, 1) := by decide +kernel
theorem d_X12_akin_106 : decode (yB m_X12_akin) 106 = .ok (.ixor, 1) := by decide +kernel
theorem d_X12_akin_107 : decode (yB m_X12_akin) 107 = .ok (.invokestatic 293, 3) := by decide +kernel
theorem d_X12_akin_110 : decode (yB m_X12_akin) 110 = .ok (.iload 4, 2) := by decide +kernel
theorem d_X12_akin_112 : decode (yB m_X12_akin) 112 = .ok (.if_icmp .gt 6, 3) := by decide +kernel
theorem d_X12_akin_115 : decode (yB m_X12_akin) 115 = .ok (.goto 32, 3) := by decide +kernel
theorem d_X12_akin_118 : decode (yB m_X12_akin) 118 = .ok (.bipush 100, 2) := by decide +kernel
theorem d_X12_akin_120 : decode (yB m_X12_akin) 120 = .ok (.iload 5, 2) := by decide +kernel
theorem d_X12_akin_122 : decode (yB m_X12_akin) 122 = .ok (.imul, 1) := by decide +kernel
theorem d_X12_akin_123 : decode (yB m_X12_akin) 123 = .ok (.iload 6, 2) := by decide +kernel
theorem d_X12_akin_125 : decode (yB m_X12_akin) 125 = .ok (.iadd, 1) := by decide +kernel
theorem d_X12_akin_126 : decode (yB m_X12_akin) 126 = .ok (.istore_n 3, 1) := by decide +kernel
theorem d_X12_akin_127 : decode (yB m_X12_akin) 127 = .ok (.aload_n 0, 1) := by decide +kernel
theorem d_X12_akin_128 : decode (yB m_X12_akin) 128 = .ok (.getfield 26, 3) := by decide +kernel
theorem d_X12_akin_131 : decode (yB m_X12_akin) 131 = .ok (.iload 5, 2) := by decide +kernel
theorem d_X12_akin_133 : decode (yB m_X12_akin) 133 = .ok (.iaload, 1) := by decide +kernel
theorem d_X12_akin_134 : decode (yB m_X12_akin) 134 = .ok (.aload_n 0, 1) := by decide +kernel
theorem d_X12_akin_135 : decode (yB m_X12_akin) 135 = .ok (.getfield 26, 3) := by decide +kernel
theorem d_X12_akin_138 : decode (yB m_X12_akin) 138 = .ok (.iload 6, 2) := by decide +kernel
theorem d_X12_akin_140 : decode (yB m_X12_akin) 140 = .ok (.iaload, 1) := by decide +kernel
theorem d_X12_akin_141 : decode (yB m_X12_akin) 141 = .ok (.ixor, 1) := by decide +kernel
theorem d_X12_akin_142 : decode (yB m_X12_akin) 142 = .ok (.invokestatic 293, 3) := by decide +kernel
theorem d_X12_akin_145 : decode (yB m_X12_akin) 145 = .ok (.istore 4, 2) := by decide +kernel
theorem d_X12_akin_147 : decode (yB m_X12_akin) 147 = .ok (.iinc 6 1, 3) := by decide +kernel
theorem d_X12_akin_150 : decode (yB m_X12_akin) 150 = .ok (.goto (-89), 3) := by decide +kernel
theorem d_X12_akin_153 : decode (yB m_X12_akin) 153 = .ok (.iinc 5 1, 3) := by decide +kernel
theorem d_X12_akin_156 : decode (yB m_X12_akin) 156 = .ok (.goto (-110), 3) := by decide +kernel
theorem d_X12_akin_159 : decode (yB m_X12_akin) 159 = .ok (.iload_n 2, 1) := by decide +kernel
theorem d_X12_akin_160 : decode (yB m_X12_akin) 160 = .ok (.ifCond .ne 7, 3) := by decide +kernel
theorem d_X12_akin_163 : decode (yB m_X12_akin) 163 = .ok (.iload_n 3, 1) := by decide +kernel
theorem d_X12_akin_164 : decode (yB m_X12_akin) 164 = .ok (.goto 5, 3) := by decide +kernel
theorem d_X12_akin_167 : decode (yB m_X12_akin) 167 = .ok (.iload 4, 2) := by decide +kernel
theorem d_X12_akin_169 : decode (yB m_X12_akin) 169 = .ok (.ireturn, 1) := by decide +kernel
def fn_X12_akin_159 (v1 : Int32) (v2 : Int32) (v3 : Int32) (v4 : Int32) (D : zD) : Option (Int32 × zD) := (if v2 = 0 then ((some (v3, D))) else ((some (v4, D))))
def fn_X12_akin_61 (v1 : Int32) (v2 : Int32) (k46 : Int32 → Int32 → Int32 → zD → Option (Int32 × zD)) : Nat → Int32 → Int32 → Int32 → Int32 → zD → Option (Int32 × zD)
  | 0, _, _, _, _, _ => none
  | n + 1, v3, v4, v5, v6, D => (if (gI D 102 16) ≤ v6 then ((k46 v3 v4 (v5 + (1 : Int32)) D)) else (zck v5 12 <| (if (gI D 107 v5.toNatClampNeg) = v1 then (zck v6 12 <| (if (gI D 107 v6.toNatClampNeg) = v1 then (zck v5 12 <| zck v6 12 <| (fn_X12_ones ((gI D 105 v5.toNatClampNeg) ^^^ (gI D 105 v6.toNatClampNeg))).bind fun x16 => (if v4 < x16 then (zlet (((100 : Int32) * v5) + v6) fun x18 => zck v5 12 <| zck v6 12 <| (fn_X12_ones ((gI D 105 v5.toNatClampNeg) ^^^ (gI D 105 v6.toNatClampNeg))).bind fun x21 => ((fn_X12_akin_61 v1 v2 k46 n) x18 x21 v5 (v6 + (1 : Int32)) D)) else (((fn_X12_akin_61 v1 v2 k46 n) v3 v4 v5 (v6 + (1 : Int32)) D)))) else (((fn_X12_akin_61 v1 v2 k46 n) v3 v4 v5 (v6 + (1 : Int32)) D)))) else (((fn_X12_akin_61 v1 v2 k46 n) v3 v4 v5 (v6 + (1 : Int32)) D)))))
def fn_X12_akin_46 (v1 : Int32) (v2 : Int32) : Nat → Int32 → Int32 → Int32 → zD → Option (Int32 × zD)
  | 0, _, _, _, _ => none
  | n + 1, v3, v4, v5, D => (if (gI D 102 16) ≤ v5 then ((fn_X12_akin_159 v1 v2 v3 v4 D)) else (zlet (v5 + (1 : Int32)) fun x8 => (fn_X12_akin_61 v1 v2 (fn_X12_akin_46 v1 v2 n) zFU v3 v4 v5 x8 D)))
def fn_X12_akin_29 (v1 : Int32) (v2 : Int32) (w1 : Int32) (D : zD) : Option (Int32 × zD) := (fn_X12_bad w1 (1 : Int32) D).bind fun q4 => (if q4.1 = 0 then ((fn_X12_akin_46 v1 v2 zFU (-1 : Int32) (-1 : Int32) (0 : Int32) q4.2)) else ((some ((0 : Int32), q4.2))))
def fn_X12_akin_24 (v1 : Int32) (v2 : Int32) (D : zD) : Option (Int32 × zD) := (fn_X12_akin_29 v1 v2 (1 : Int32) D)
def fn_X12_akin (v1 : Int32) (v2 : Int32) (D : zD) : Option (Int32 × zD) := zlet (sI D 102 0 (0 : Int32)) fun D1 => (fn_X12_in v1 (0 : Int32) (3 : Int32)).bind fun x2 => (if x2 = 0 then ((fn_X12_akin_24 v1 v2 D1)) else ((fn_X12_in v2 (0 : Int32) (1 : Int32)).bind fun x22 => (if x22 = 0 then ((fn_X12_akin_24 v1 v2 D1)) else ((fn_X12_akin_29 v1 v2 (0 : Int32) D1)))))
theorem s_X12_akin_159 {X : zX} {Sh : zSh} {d : Nat} (hst : (zl X).stackTraces = false) (h0 : zSh0 Sh) (hd : 1 ≤ d) {v1 : Int32} {v2 : Int32} (v3 : Int32) (v4 : Int32) (D : zD)  : Rn X m_X12_akin (d + 1) 159 [(2, .int v2), (3, .int v3), (4, .int v4)] [] (Sh, D) ((oI Sh) (fn_X12_akin_159 v1 v2 v3 v4 D)) := by
  rw [fn_X12_akin_159]
  refine r_iload_n (pc := 159) 0 d_X12_akin_159 rfl rfl ?_
  refine r_if_ne (f := (oI Sh)) (pc := 160) 167 d_X12_akin_160 (by decide) (fun c7 => ?_) (fun c7 => ?_)
  · refine r_iload (pc := 167) 2 d_X12_akin_167 rfl ?_
    exact r_iret (pc := 169) rfl d_X12_akin_169
  · refine r_iload_n (pc := 163) 1 d_X12_akin_163 rfl rfl ?_
    refine r_goto (pc := 164) 169 d_X12_akin_164 (by decide) ?_
    exact r_iret (pc := 169) rfl d_X12_akin_169
theorem s_X12_akin_61 {X : zX} {Sh : zSh} {d : Nat} (hst : (zl X).stackTraces = false) (h0 : zSh0 Sh) (hd : 1 ≤ d) {v1 : Int32} {v2 : Int32} (k46 : Int32 → Int32 → Int32 → zD → Option (Int32 × zD)) (hk46 : ∀ (v3 : Int32) (v4 : Int32) (v5 : Int32) (D : zD) , Rn X m_X12_akin (d + 1) 46 [(0, .ref 102), (1, .int v1), (2, .int v2), (3, .int v3), (4, .int v4), (5, .int v5)] [] (Sh, D) ((oI Sh) (k46 v3 v4 v5 D))) : ∀ (n : Nat) (v3 : Int32) (v4 : Int32) (v5 : Int32) (v6 : Int32) (D : zD) , Rn X m_X12_akin (d + 1) 61 [(0, .ref 102), (1, .int v1), (2, .int v2), (3, .int v3), (4, .int v4), (5, .int v5), (6, .int v6)] [] (Sh, D) ((oI Sh) (fn_X12_akin_61 v1 v2 k46 n v3 v4 v5 v6 D)) := by
  intro n
  induction n with
  | zero => intro v3 v4 v5 v6 D; exact Rn_none rfl
  | succ n hk61 =>
    intro v3 v4 v5 v6 D
    rw [fn_X12_akin_61]
    refine r_iload (pc := 61) 6 d_X12_akin_61 rfl ?_
    refine r_aload_n (pc := 63) 0 d_X12_akin_63 rfl rfl ?_
    refine q_gI (pc := 64) g_X12_224 (K_102 h0) rfl d_X12_akin_64 ?_
    refine r_icmp_ge (f := (oI Sh)) (pc := 67) 153 d_X12_akin_67 (by decide) (fun c9 => ?_) (fun c9 => ?_)
    · refine r_iinc (pc := 153) ((v5 + (1 : Int32))) 5 (ls' := [(5, .int (v5 + (1 : Int32))), (0, .ref 102), (1, .int v1), (2, .int v2), (3, .int v3), (4, .int v4), (6, .int v6)]) d_X12_akin_153 rfl rfl (Nat.le_of_ble_eq_true rfl) rfl ?_
      refine r_goto (pc := 156) 46 d_X12_akin_156 (by decide) ?_
      refine r_pick [1, 2, 3, 4, 5, 0] (ls' := [(0, .ref 102), (1, .int v1), (2, .int v2), (3, .int v3), (4, .int v4), (5, .int (v5 + (1 : Int32)))]) rfl ?_
      exact hk46 v3 v4 (v5 + (1 : Int32)) D 
    · refine r_aload_n (pc := 70) 0 d_X12_akin_70 rfl rfl ?_
      refine r_getR (pc := 71) g_X12_32 (K_102 h0) rfl (R_102_21 h0) d_X12_akin_71 ?_
      refine r_iload (pc := 74) 5 d_X12_akin_74 rfl ?_
      refine r_ck (f := (oI Sh)) rfl (fun hc10 => ?_)
      refine q_iald (pc := 76) (j := v5.toNatClampNeg) (K_107 h0) hc10 rfl d_X12_akin_76 ?_
      refine r_iload_n (pc := 77) 1 d_X12_akin_77 rfl rfl ?_
      refine r_icmp_ne (f := (oI Sh)) (pc := 78) 147 d_X12_akin_78 (by decide) (fun c11 => ?_) (fun c11 => ?_)
      · refine r_iinc (pc := 147) ((v6 + (1 : Int32))) 6 (ls' := [(6, .int (v6 + (1 : Int32))), (0, .ref 102), (1, .int v1), (2, .int v2), (3, .int v3), (4, .int v4), (5, .int v5)]) d_X12_akin_147 rfl rfl (Nat.le_of_ble_eq_true rfl) rfl ?_
        refine r_goto (pc := 150) 61 d_X12_akin_150 (by decide) ?_
        refine r_pick [1, 2, 3, 4, 5, 6, 0] (ls' := [(0, .ref 102), (1, .int v1), (2, .int v2), (3, .int v3), (4, .int v4), (5, .int v5), (6, .int (v6 + (1 : Int32)))]) rfl ?_
        exact hk61 v3 v4 v5 (v6 + (1 : Int32)) D 
      · refine r_aload_n (pc := 81) 0 d_X12_akin_81 rfl rfl ?_
        refine r_getR (pc := 82) g_X12_32 (K_102 h0) rfl (R_102_21 h0) d_X12_akin_82 ?_
        refine r_iload (pc := 85) 6 d_X12_akin_85 rfl ?_
        refine r_ck (f := (oI Sh)) rfl (fun hc12 => ?_)
        refine q_iald (pc := 87) (j := v6.toNatClampNeg) (K_107 h0) hc12 rfl d_X12_akin_87 ?_
        refine r_iload_n (pc := 88) 1 d_X12_akin_88 rfl rfl ?_
        refine r_icmp_ne (f := (oI Sh)) (pc := 89) 147 d_X12_akin_89 (by decide) (fun c13 => ?_) (fun c13 => ?_)
        · refine r_iinc (pc := 147) ((v6 + (1 : Int32))) 6 (ls' := [(6, .int (v6 + (1 : Int32))), (0, .ref 102), (1, .int v1), (2, .int v2), (3, .int v3), (4, .int v4), (5, .int v5)]) d_X12_akin_147 rfl rfl (Nat.le_of_ble_eq_true rfl) rfl ?_
          refine r_goto (pc := 150) 61 d_X12_akin_150 (by decide) ?_
          refine r_pick [1, 2, 3, 4, 5, 6, 0] (ls' := [(0, .ref 102), (1, .int v1), (2, .int v2), (3, .int v3), (4, .int v4), (5, .int v5), (6, .int (v6 + (1 : Int32)))]) rfl ?_
          exact hk61 v3 v4 v5 (v6 + (1 : Int32)) D 
        · refine r_aload_n (pc := 92) 0 d_X12_akin_92 rfl rfl ?_
          refine r_getR (pc := 93) g_X12_26 (K_102 h0) rfl (R_102_19 h0) d_X12_akin_93 ?_
          refine r_iload (pc := 96) 5 d_X12_akin_96 rfl ?_
          refine r_ck (f := (oI Sh)) rfl (fun hc14 => ?_)
          refine q_iald (pc := 98) (j := v5.toNatClampNeg) (K_105 h0) hc14 rfl d_X12_akin_98 ?_
          refine r_aload_n (pc := 99) 0 d_X12_akin_99 rfl rfl ?_
          refine r_getR (pc := 100) g_X12_26 (K_102 h0) rfl (R_102_19 h0) d_X12_akin_100 ?_
          refine r_iload (pc := 103) 6 d_X12_akin_103 rfl ?_
          refine r_ck (f := (oI Sh)) rfl (fun hc15 => ?_)
          refine q_iald (pc := 105) (j := v6.toNatClampNeg) (K_105 h0) hc15 rfl d_X12_akin_105 ?_
          refine r_ixor (pc := 106) d_X12_akin_106 ?_
          refine q_cP (f := (oI Sh)) (av := [.int ((gI D 105 v5.toNatClampNeg) ^^^ (gI D 105 v6.toNatClampNeg))]) (st := []) (z_runS ck_X12_ones rfl ml_X12_293 cs_X12_ones rfl (Nat.le_of_ble_eq_true rfl) d_X12_akin_107) (s_X12_ones hst h0 (by omega)) kp_I (fun x16 _ => ?_)
          refine r_iload (pc := 110) 4 d_X12_akin_110 rfl ?_
          refine r_icmp_gt (f := (oI Sh)) (pc := 112) 118 d_X12_akin_112 (by decide) (fun c17 => ?_) (fun c17 => ?_)
          · refine r_bipush (pc := 118) (100 : Int32) d_X12_akin_118 rfl ?_
            refine r_iload (pc := 120) 5 d_X12_akin_120 rfl ?_
            refine r_imul (pc := 122) d_X12_akin_122 ?_
            refine r_iload (pc := 123) 6 d_X12_akin_123 rfl ?_
            refine r_iadd (pc := 125) d_X12_akin_125 ?_
            refine r_leti (f := (oI Sh)) (fun x18 => ?_)
            refine r_istore_n (pc := 126) (ls' := [(3, .int x18), (0, .ref 102), (1, .int v1), (2, .int v2), (4, .int v4), (5, .int v5), (6, .int v6)]) d_X12_akin_126 rfl (Nat.le_of_ble_eq_true rfl) rfl ?_
            refine r_aload_n (pc := 127) 1 d_X12_akin_127 rfl rfl ?_
            refine r_getR (pc := 128) g_X12_26 (K_102 h0) rfl (R_102_19 h0) d_X12_akin_128 ?_
            refine r_iload (pc := 131) 5 d_X12_akin_131 rfl ?_
            refine r_ck (f := (oI Sh)) rfl (fun hc19 => ?_)
            refine q_iald (pc := 133) (j := v5.toNatClampNeg) (K_105 h0) hc19 rfl d_X12_akin_133 ?_
            refine r_aload_n (pc := 134) 1 d_X12_akin_134 rfl rfl ?_
            refine r_getR (pc := 135) g_X12_26 (K_102 h0) rfl (R_102_19 h0) d_X12_akin_135 ?_
            refine r_iload (pc := 138) 6 d_X12_akin_138 rfl ?_
            refine r_ck (f := (oI Sh)) rfl (fun hc20 => ?_)
            refine q_iald (pc := 140) (j := v6.toNatClampNeg) (K_105 h0) hc20 rfl d_X12_akin_140 ?_
            refine r_ixor (pc := 141) d_X12_akin_141 ?_
            refine q_cP (f := (oI Sh)) (av := [.int ((gI D 105 v5.toNatClampNeg) ^^^ (gI D 105 v6.toNatClampNeg))]) (st := []) (z_runS ck_X12_ones rfl ml_X12_293 cs_X12_ones rfl (Nat.le_of_ble_eq_true rfl) d_X12_akin_142) (s_X12_ones hst h0 (by omega)) kp_I (fun x21 _ => ?_)
            refine r_istore (pc := 145) (ls' := [(4, .int x21), (3, .int x18), (0, .ref 102), (1, .int v1), (2, .int v2), (5, .int v5), (6, .int v6)]) d_X12_akin_145 (Nat.le_of_ble_eq_true rfl) rfl ?_
            refine r_iinc (pc := 147) ((v6 + (1 : Int32))) 6 (ls' := [(6, .int (v6 + (1 : Int32))), (4, .int x21), (3, .int x18), (0, .ref 102), (1, .int v1), (2, .int v2), (5, .int v5)]) d_X12_akin_147 rfl rfl (Nat.le_of_ble_eq_true rfl) rfl ?_
            refine r_goto (pc := 150) 61 d_X12_akin_150 (by decide) ?_
            refine r_pick [3, 4, 5, 2, 1, 6, 0] (ls' := [(0, .ref 102), (1, .int v1), (2, .int v2), (3, .int x18), (4, .int x21), (5, .int v5), (6, .int (v6 + (1 : Int32)))]) rfl ?_
            exact hk61 x18 x21 v5 (v6 + (1 : Int32)) D 
          · refine r_goto (pc := 115) 147 d_X12_akin_115 (by decide) ?_
            refine r_iinc (pc := 147) ((v6 + (1 : Int32))) 6 (ls' := [(6, .int (v6 + (1 : Int32))), (0, .ref 102), (1, .int v1), (2, .int v2), (3, .int v3), (4, .int v4), (5, .int v5)]) d_X12_akin_147 rfl rfl (Nat.le_of_ble_eq_true rfl) rfl ?_
            refine r_goto (pc := 150) 61 d_X12_akin_150 (by decide) ?_
            refine r_pick [1, 2, 3, 4, 5, 6, 0] (ls' := [(0, .ref 102), (1, .int v1), (2, .int v2), (3, .int v3), (4, .int v4), (5, .int v5), (6, .int (v6 + (1 : Int32)))]) rfl ?_
            exact hk61 v3 v4 v5 (v6 + (1 : Int32)) D 
theorem s_X12_akin_46 {X : zX} {Sh : zSh} {d : Nat} (hst : (zl X).stackTraces = false) (h0 : zSh0 Sh) (hd : 1 ≤ d) {v1 : Int32} {v2 : Int32} : ∀ (n : Nat) (v3 : Int32) (v4 : Int32) (v5 : Int32) (D : zD) , Rn X m_X12_akin (d + 1) 46 [(0, .ref 102), (1, .int v1), (2, .int v2), (3, .int v3), (4, .int v4), (5, .int v5)] [] (Sh, D) ((oI Sh) (fn_X12_akin_46 v1 v2 n v3 v4 v5 D)) := by
  intro n
  induction n with
  | zero => intro v3 v4 v5 D; exact Rn_none rfl
  | succ n hk46 =>
    intro v3 v4 v5 D
    rw [fn_X12_akin_46]
    refine r_iload (pc := 46) 5 d_X12_akin_46 rfl ?_
    refine r_aload_n (pc := 48) 0 d_X12_akin_48 rfl rfl ?_
    refine q_gI (pc := 49) g_X12_224 (K_102 h0) rfl d_X12_akin_49 ?_
    refine r_icmp_ge (f := (oI Sh)) (pc := 52) 159 d_X12_akin_52 (by decide) (fun c6 => ?_) (fun c6 => ?_)
    · refine r_pick [2, 3, 4] (ls' := [(2, .int v2), (3, .int v3), (4, .int v4)]) rfl ?_
      exact s_X12_akin_159 hst h0 hd v3 v4 D
    · refine r_iload (pc := 55) 5 d_X12_akin_55 rfl ?_
      refine r_iconst (pc := 57) (1 : Int32) d_X12_akin_57 rfl ?_
      refine r_iadd (pc := 58) d_X12_akin_58 ?_
      refine r_leti (f := (oI Sh)) (fun x8 => ?_)
      refine r_istore (pc := 59) (ls' := [(6, .int x8), (0, .ref 102), (1, .int v1), (2, .int v2), (3, .int v3), (4, .int v4), (5, .int v5)]) d_X12_akin_59 (Nat.le_of_ble_eq_true rfl) rfl ?_
      refine r_pick [1, 2, 3, 4, 5, 6, 0] (ls' := [(0, .ref 102), (1, .int v1), (2, .int v2), (3, .int v3), (4, .int v4), (5, .int v5), (6, .int x8)]) rfl ?_
      exact s_X12_akin_61 hst h0 hd (fn_X12_akin_46 v1 v2 n) hk46 zFU  v3 v4 v5 x8 D
theorem s_X12_akin_29 {X : zX} {Sh : zSh} {d : Nat} (hst : (zl X).stackTraces = false) (h0 : zSh0 Sh) (hd : 1 ≤ d) {v1 : Int32} {v2 : Int32} (w1 : Int32) (D : zD)  : Rn X m_X12_akin (d + 1) 29 [(0, .ref 102), (1, .int v1), (2, .int v2)] [.int w1, .ref 102] (Sh, D) ((oI Sh) (fn_X12_akin_29 v1 v2 w1 D)) := by
  rw [fn_X12_akin_29]
  refine r_iconst (pc := 29) (1 : Int32) d_X12_akin_29 rfl ?_
  refine q_cI (f := (oI Sh)) (av := [.ref 102, .int w1, .int (1 : Int32)]) (st := []) (z_runV ck_X12_bad rfl ml_X12_214 ci_X12_bad cv_X12_bad (K_102 h0) (ci := 12) rfl rfl (Nat.le_of_ble_eq_true rfl) d_X12_akin_30) (s_X12_bad hst h0 (by omega)) kp_I (fun q4 _ => ?_)
  refine r_if_eq (f := (oI Sh)) (pc := 33) 38 d_X12_akin_33 (by decide) (fun c5 => ?_) (fun c5 => ?_)
  · refine r_iconst (pc := 38) (-1 : Int32) d_X12_akin_38 rfl ?_
    refine r_istore_n (pc := 39) (ls' := [(3, .int (-1 : Int32)), (0, .ref 102), (1, .int v1), (2, .int v2)]) d_X12_akin_39 rfl (Nat.le_of_ble_eq_true rfl) rfl ?_
    refine r_iconst (pc := 40) (-1 : Int32) d_X12_akin_40 rfl ?_
    refine r_istore (pc := 41) (ls' := [(4, .int (-1 : Int32)), (3, .int (-1 : Int32)), (0, .ref 102), (1, .int v1), (2, .int v2)]) d_X12_akin_41 (Nat.le_of_ble_eq_true rfl) rfl ?_
    refine r_iconst (pc := 43) (0 : Int32) d_X12_akin_43 rfl ?_
    refine r_istore (pc := 44) (ls' := [(5, .int (0 : Int32)), (4, .int (-1 : Int32)), (3, .int (-1 : Int32)), (0, .ref 102), (1, .int v1), (2, .int v2)]) d_X12_akin_44 (Nat.le_of_ble_eq_true rfl) rfl ?_
    refine r_pick [3, 4, 5, 2, 1, 0] (ls' := [(0, .ref 102), (1, .int v1), (2, .int v2), (3, .int (-1 : Int32)), (4, .int (-1 : Int32)), (5, .int (0 : Int32))]) rfl ?_
    exact s_X12_akin_46 hst h0 hd zFU  (-1 : Int32) (-1 : Int32) (0 : Int32) q4.2
  · refine r_iconst (pc := 36) (0 : Int32) d_X12_akin_36 rfl ?_
    exact r_iret (pc := 37) rfl d_X12_akin_37
theorem s_X12_akin_24 {X : zX} {Sh : zSh} {d : Nat} (hst : (zl X).stackTraces = false) (h0 : zSh0 Sh) (hd : 1 ≤ d) {v1 : Int32} {v2 : Int32}  (D : zD)  : Rn X m_X12_akin (d + 1) 24 [(0, .ref 102), (1, .int v1), (2, .int v2)] [.ref 102] (Sh, D) ((oI Sh) (fn_X12_akin_24 v1 v2 D)) := by
  rw [fn_X12_akin_24]
  refine r_iconst (pc := 24) (1 : Int32) d_X12_akin_24 rfl ?_
  refine r_goto (pc := 25) 29 d_X12_akin_25 (by decide) ?_
  refine r_pick [0, 1, 2] (ls' := [(0, .ref 102), (1, .int v1), (2, .int v2)]) rfl ?_
  exact s_X12_akin_29 hst h0 hd (1 : Int32) D
theorem s_X12_akin {X : zX} {Sh : zSh} {d : Nat} (hst : (zl X).stackTraces = false) (h0 : zSh0 Sh) (hd : 2 ≤ d) {v1 : Int32} {v2 : Int32} {D : zD} : Sd X m_X12_akin d [.ref 102, .int v1, .int v2] (Sh, D) ((oI Sh) (fn_X12_akin v1 v2 D)) := by
  obtain ⟨d, rfl⟩ : ∃ e, d = e + 1 := ⟨d - 1, by omega⟩
  replace hd : 1 ≤ d := by omega
  refine z_body ck_X12_akin rfl (Nat.le_of_ble_eq_true rfl) rfl hst ?_
  rw [fn_X12_akin]
  show Rn X m_X12_akin (d + 1) 0 [(0, .ref 102), (1, .int v1), (2, .int v2)] [] (Sh, D) _
  refine r_aload_n (pc := 0) 0 d_X12_akin_0 rfl rfl ?_
  refine r_iconst (pc := 1) (0 : Int32) d_X12_akin_1 rfl ?_
  refine r_putI (pc := 2) p_X12_113 (K_102 h0) rfl (Or.inl rfl) d_X12_akin_2 ?_
  refine r_letD (f := (oI Sh)) (fun D1 => ?_)
  refine r_aload_n (pc := 5) 0 d_X12_akin_5 rfl rfl ?_
  refine r_iload_n (pc := 6) 1 d_X12_akin_6 rfl rfl ?_
  refine r_iconst (pc := 7) (0 : Int32) d_X12_akin_7 rfl ?_
  refine r_iconst (pc := 8) (3 : Int32) d_X12_akin_8 rfl ?_
  refine q_cP (f := (oI Sh)) (av := [.int v1, .int (0 : Int32), .int (3 : Int32)]) (st := [.ref 102]) (z_runS ck_X12_in rfl ml_X12_147 cs_X12_in rfl (Nat.le_of_ble_eq_true rfl) d_X12_akin_9) (s_X12_in hst h0 (by omega)) kp_I (fun x2 _ => ?_)
  refine r_if_eq (f := (oI Sh)) (pc := 12) 24 d_X12_akin_12 (by decide) (fun c3 => ?_) (fun c3 => ?_)
  · refine r_pick [0, 1, 2] (ls' := [(0, .ref 102), (1, .int v1), (2, .int v2)]) rfl ?_
    exact s_X12_akin_24 hst h0 hd D1
  · refine r_iload_n (pc := 15) 2 d_X12_akin_15 rfl rfl ?_
    refine r_iconst (pc := 16) (0 : Int32) d_X12_akin_16 rfl ?_
    refine r_iconst (pc := 17) (1 : Int32) d_X12_akin_17 rfl ?_
    refine q_cP (f := (oI Sh)) (av := [.int v2, .int (0 : Int32), .int (1 : Int32)]) (st := [.ref 102]) (z_runS ck_X12_in rfl ml_X12_147 cs_X12_in rfl (Nat.le_of_ble_eq_true rfl) d_X12_akin_18) (s_X12_in hst h0 (by omega)) kp_I (fun x22 _ => ?_)
    refine r_if_ne (f := (oI Sh)) (pc := 21) 28 d_X12_akin_21 (by decide) (fun c23 => ?_) (fun c23 => ?_)
    · refine r_iconst (pc := 28) (0 : Int32) d_X12_akin_28 rfl ?_
      refine r_pick [0, 1, 2] (ls' := [(0, .ref 102), (1, .int v1), (2, .int v2)]) rfl ?_
      exact s_X12_akin_29 hst h0 hd (0 : Int32) D1
    · refine r_pick [0, 1, 2] (ls' := [(0, .ref 102), (1, .int v1), (2, .int v2)]) rfl ?_
      exact s_X12_akin_24 hst h0 hd D1
/-! CoveredSignsModel.strangers -/
theorem d_X12_strangers_0 : decode (yB m_X12_strangers) 0 = .ok (.aload_n 0, 1) := by decide +kernel
theorem d_X12_strangers_1 : decode (yB m_X12_strangers) 1 = .ok (.iconst 0, 1) := by decide +kernel
theorem d_X12_strangers_2 : decode (yB m_X12_strangers) 2 = .ok (.putfield 113, 3) := by decide +kernel
theorem d_X12_strangers_5 : decode (yB m_X12_strangers) 5 = .ok (.iconst 0, 1) := by decide +kernel
theorem d_X12_strangers_6 : decode (yB m_X12_strangers) 6 = .ok (.istore_n 1, 1) := by decide +kernel
theorem d_X12_strangers_7 : decode (yB m_X12_strangers) 7 = .ok (.iconst 0, 1) := by decide +kernel
theorem d_X12_strangers_8 : decode (yB m_X12_strangers) 8 = .ok (.istore_n 2, 1) := by decide +kernel
theorem d_X12_strangers_9 : decode (yB m_X12_strangers) 9 = .ok (.iload_n 2, 1) := by decide +kernel
theorem d_X12_strangers_10 : decode (yB m_X12_strangers) 10 = .ok (.aload_n 0, 1) := by decide +kernel
theorem d_X12_strangers_11 : decode (yB m_X12_strangers) 11 = .ok (.getfield 224, 3) := by decide +kernel
theorem d_X12_strangers_14 : decode (yB m_X12_strangers) 14 = .ok (.if_icmp .ge 156, 3) := by decide +kernel
theorem d_X12_strangers_17 : decode (yB m_X12_strangers) 17 = .ok (.iconst (-1), 1) := by decide +kernel
theorem d_X12_strangers_18 : decode (yB m_X12_strangers) 18 = .ok (.istore_n 3, 1) := by decide +kernel
theorem d_X12_strangers_19 : decode (yB m_X12_strangers) 19 = .ok (.iconst (-1), 1) := by decide +kernel
theorem d_X12_strangers_20 : decode (yB m_X12_strangers) 20 = .ok (.istore 4, 2) := by decide +kernel
theorem d_X12_strangers_22 : decode (yB m_X12_strangers) 22 = .ok (.iconst 0, 1) := by decide +kernel
theorem d_X12_strangers_23 : decode (yB m_X12_strangers) 23 = .ok (.istore 5, 2) := by decide +kernel
theorem d_X12_strangers_25 : decode (yB m_X12_strangers) 25 = .ok (.iload 5, 2) := by decide +kernel
theorem d_X12_strangers_27 : decode (yB m_X12_strangers) 27 = .ok (.aload_n 0, 1) := by decide +kernel
theorem d_X12_strangers_28 : decode (yB m_X12_strangers) 28 = .ok (.getfield 224, 3) := by decide +kernel
theorem d_X12_strangers_31 : decode (yB m_X12_strangers) 31 = .ok (.if_icmp .ge 106, 3) := by decide +kernel
theorem d_X12_strangers_34 : decode (yB m_X12_strangers) 34 = .ok (.iload 5, 2) := by decide +kernel
theorem d_X12_strangers_36 : decode (yB m_X12_strangers) 36 = .ok (.iload_n 2, 1) := by decide +kernel
theorem d_X12_strangers_37 : decode (yB m_X12_strangers) 37 = .ok (.if_icmp .eq 94, 3) := by decide +kernel
theorem d_X12_strangers_40 : decode (yB m_X12_strangers) 40 = .ok (.aload_n 0, 1) := by decide +kernel
theorem d_X12_strangers_41 : decode (yB m_X12_strangers) 41 = .ok (.getfield 32, 3) := by decide +kernel
theorem d_X12_strangers_44 : decode (yB m_X12_strangers) 44 = .ok (.iload_n 2, 1) := by decide +kernel
theorem d_X12_strangers_45 : decode (yB m_X12_strangers) 45 = .ok (.iaload, 1) := by decide +kernel
theorem d_X12_strangers_46 : decode (yB m_X12_strangers) 46 = .ok (.iconst (-1), 1) := by decide +kernel
theorem d_X12_strangers_47 : decode (yB m_X12_strangers) 47 = .ok (.if_icmp .ne 6, 3) := by decide +kernel
theorem d_X12_strangers_50 : decode (yB m_X12_strangers) 50 = .ok (.goto 81, 3) := by decide +kernel
theorem d_X12_strangers_53 : decode (yB m_X12_strangers) 53 = .ok (.aload_n 0, 1) := by decide +kernel
theorem d_X12_strangers_54 : decode (yB m_X12_strangers) 54 = .ok (.getfield 26, 3) := by decide +kernel
theorem d_X12_strangers_57 : decode (yB m_X12_strangers) 57 = .ok (.iload_n 2, 1) := by decide +kernel
theorem d_X12_strangers_58 : decode (yB m_X12_strangers) 58 = .ok (.iaload, 1) := by decide +kernel
theorem d_X12_strangers_59 : decode (yB m_X12_strangers) 59 = .ok (.aload_n 0, 1) := by decide +kernel
theorem d_X12_strangers_60 : decode (yB m_X12_strangers) 60 = .ok (.getfield 26, 3) := by decide +kernel
theorem d_X12_strangers_63 : decode (yB m_X12_strangers) 63 = .ok (.iload 5, 2) := by decide +kernel
theorem d_X12_strangers_65 : decode (yB m_X12_strangers) 65 = .ok (.iaload, 1) := by decide +kernel
theorem d_X12_strangers_66 : decode (yB m_X12_strangers) 66 = .ok (.ixor, 1) := by decide +kernel
theorem d_X12_strangers_67 : decode (yB m_X12_strangers) 67 = .ok (.invokestatic 293, 3) := by decide +kernel
theorem d_X12_strangers_70 : decode (yB m_X12_strangers) 70 = .ok (.istore 6, 2) := by decide +kernel
theorem d_X12_strangers_72 : decode (yB m_X12_strangers) 72 = .ok (.aload_n 0, 1) := by decide +kernel
theorem d_X12_strangers_73 : decode (yB m_X12_strangers) 73 = .ok (.getfield 32, 3) := by decide +kernel
theorem d_X12_strangers_76 : decode (yB m_X12_strangers) 76 = .ok (.iload 5, 2) := by decide +kernel
theorem d_X12_strangers_78 : decode (yB m_X12_strangers) 78 = .ok (.iaload, 1) := by decide +kernel
theorem d_X12_strangers_79 : decode (yB m_X12_strangers) 79 = .ok (.aload_n 0, 1) := by decide +kernel
theorem d_X12_strangers_80 : decode (yB m_X12_strangers) 80 = .ok (.getfield 32, 3) := by decide +kernel
theorem d_X12_strangers_83 : decode (yB m_X12_strangers) 83 = .ok (.iload_n 2, 1) := by decide +kernel
theorem d_X12_strangers_84 : decode (yB m_X12_strangers) 84 = .ok (.iaload, 1) := by decide +kernel
theorem d_X12_strangers_85 : decode (yB m_X12_strangers) 85 = .ok (.if_icmp .ne 24, 3) := by decide +kernel
theorem d_X12_strangers_88 : decode (yB m_X12_strangers) 88 = .ok (.iload_n 3, 1) := by decide +kernel
theorem d_X12_strangers_89 : decode (yB m_X12_strangers) 89 = .ok (.iconst (-1), 1) := by decide +kernel
theorem d_X12_strangers_90 : decode (yB m_X12_strangers) 90 = .ok (.if_icmp .eq 9, 3) := by decide +kernel
theorem d_X12_strangers_93 : decode (yB m_X12_strangers) 93 = .ok (.iload 6, 2) := by decide +kernel
theorem d_X12_strangers_95 : decode (yB m_X12_strangers) 95 = .ok (.iload_n 3, 1) := by decide +kernel
theorem d_X12_strangers_96 : decode (yB m_X12_strangers) 96 = .ok (.if_icmp .ge 8, 3) := by decide +kernel
theorem d_X12_strangers_99 : decode (yB m_X12_strangers) 99 = .ok (.iload 6, 2) := by decide +kernel
theorem d_X12_strangers_101 : decode (yB m_X12_strangers) 101 = .ok (.goto 4, 3) := by decide +kernel
theorem d_X12_strangers_104 : decode (yB m_X12_strangers) 104 = .ok (.iload_n 3, 1) := by decide +kernel
theorem d_X12_strangers_105 : decode (yB m_X12_strangers) 105 = .ok (.istore_n 3, 1) := by decide +kernel
theorem d_X12_strangers_106 : decode (yB m_X12_strangers) 106 = .ok (.goto 25, 3) := by decide +kernel
theorem d_X12_strangers_109 : decode (yB m_X12_strangers) 109 = .ok (.iload 4, 2) := by decide +kernel
theorem d_X12_strangers_111 : decode (yB m_X12_strangers) 111 = .ok (.iconst (-1), 1) := by decide +kernel
theorem d_X12_strangers_112 : decode (yB m_X12_strangers) 112 = .ok (.if_icmp .eq 10, 3) := by decide +kernel
theorem d_X12_strangers_115 : decode (yB m_X12_strangers) 115 = .ok (.iload 6, 2) := by decide +kernel
theorem d_X12_strangers_117 : decode (yB m_X12_strangers) 117 = .ok (.iload 4, 2) := by decide +kernel
theorem d_X12_strangers_119 : decode (yB m_X12_strangers) 119 = .ok (.if_icmp .ge 8, 3) := by decide +kernel
theorem d_X12_strangers_122 : decode (yB m_X12_strangers) 122 = .ok (.iload 6, 2) := by decide +kernel
theorem d_X12_strangers_124 : decode (yB m_X12_strangers) 124 = .ok (.goto 5, 3) := by decide +kernel
theorem d_X12_strangers_127 : decode (yB m_X12_strangers) 127 = .ok (.iload 4, 2) := by decide +kernel
theorem d_X12_strangers_129 : decode (yB m_X12_strangers) 129 = .ok (.istore 4, 2) := by decide +kernel
theorem d_X12_strangers_131 : decode (yB m_X12_strangers) 131 = .ok (.iinc 5 1, 3) := by decide +kernel
theorem d_X12_strangers_134 : decode (yB m_X12_strangers) 134 = .ok (.goto (-109), 3) := by decide +kernel
theorem d_X12_strangers_137 : decode (yB m_X12_strangers) 137 = .ok (.iload_n 1, 1) := by decide +kernel
theorem d_X12_strangers_138 : decode (yB m_X12_strangers) 138 = .ok (.iload_n 3, 1) := by decide +kernel
theorem d_X12_strangers_139 : decode (yB m_X12_strangers) 139 = .ok (.iconst (-1), 1) := by decide +kernel
theorem d_X12_strangers_140 : decode (yB m_X12_strangers) 140 = .ok (.if_icmp .eq 21, 3) := by decide +kernel
theorem d_X12_strangers_143 : decode (yB m_X12_strangers) 143 = .ok (.iload 4, 2) := by decide +kernel
theorem d_X12_strangers_145 : decode (yB m_X12_strangers) 145 = .ok (.iconst (-1), 1) := by decide +kernel
theorem d_X12_strangers_146 : decode (yB m_X12_strangers) 146 = .ok (.if_icmp .eq 15, 3) := by decide +kernel
theorem d_X12_strangers_149 : decode (yB m_X12_strangers) 149 = .ok (.iload 4, 2) := by decide +kernel
theorem d_X12_strangers_151 : decode (yB m_X12_strangers) 151 = .ok (.iload_n 3, 1) := by decide +kernel
theorem d_X12_strangers_152 : decode (yB m_X12_strangers) 152 = .ok (.if_icmp .ge 9, 3) := by decide +kernel
theorem d_X12_strangers_155 : decode (yB m_X12_strangers) 155 = .ok (.iconst 1, 1) := by decide +kernel
theorem d_X12_strangers_156 : decode (yB m_X12_strangers) 156 = .ok (.iload_n 2, 1) := by decide +kernel
theorem d_X12_strangers_157 : decode (yB m_X12_strangers) 157 = .ok (.ishl, 1) := by decide +kernel
theorem d_X12_strangers_158 : decode (yB m_X12_strangers) 158 = .ok (.goto 4, 3) := by decide +kernel
theorem d_X12_strangers_161 : decode (yB m_X12_strangers) 161 = .ok (.iconst 0, 1) := by decide +kernel
theorem d_X12_strangers_162 : decode (yB m_X12_strangers) 162 = .ok (.ior, 1) := by decide +kernel
theorem d_X12_strangers_163 : decode (yB m_X12_strangers) 163 = .ok (.istore_n 1, 1) := by decide +kernel
theorem d_X12_strangers_164 : decode (yB m_X12_strangers) 164 = .ok (.iinc 2 1, 3) := by decide +kernel
theorem d_X12_strangers_167 : decode (yB m_X12_strangers) 167 = .ok (.goto (-158), 3) := by decide +kernel
theorem d_X12_strangers_170 : decode (yB m_X12_strangers) 170 = .ok (.iload_n 1, 1) := by decide +kernel
theorem d_X12_strangers_171 : decode (yB m_X12_strangers) 171 = .ok (.ireturn, 1) := by decide +kernel
def fn_X12_strangers_137 (k9 : Int32 → Int32 → zD → Option (Int32 × zD)) (v1 : Int32) (v2 : Int32) (v3 : Int32) (v4 : Int32) (D : zD) : Option (Int32 × zD) := (if v3 = (-1 : Int32) then (zlet (v1 ||| (0 : Int32)) fun x5 => (k9 x5 (v2 + (1 : Int32)) D)) else ((if v4 = (-1 : Int32) then (zlet (v1 ||| (0 : Int32)) fun x7 => (k9 x7 (v2 + (1 : Int32)) D)) else ((if v3 ≤ v4 then (zlet (v1 ||| (0 : Int32)) fun x9 => (k9 x9 (v2 + (1 : Int32)) D)) else (zlet (v1 ||| ((1 : Int32) <<< (v2 &&& 31))) fun x10 => (k9 x10 (v2 + (1 : Int32)) D)))))))
def fn_X12_strangers_25 (k9 : Int32 → Int32 → zD → Option (Int32 × zD)) : Nat → Int32 → Int32 → Int32 → Int32 → Int32 → zD → Option (Int32 × zD)
  | 0, _, _, _, _, _, _ => none
  | n + 1, v1, v2, v3, v4, v5, D => (if (gI D 102 16) ≤ v5 then ((fn_X12_strangers_137 k9 v1 v2 v3 v4 D)) else ((if v5 = v2 then (((fn_X12_strangers_25 k9 n) v1 v2 v3 v4 (v5 + (1 : Int32)) D)) else (zck v2 12 <| (if (gI D 107 v2.toNatClampNeg) = (-1 : Int32) then (((fn_X12_strangers_25 k9 n) v1 v2 v3 v4 (v5 + (1 : Int32)) D)) else (zck v2 12 <| zck v5 12 <| (fn_X12_ones ((gI D 105 v2.toNatClampNeg) ^^^ (gI D 105 v5.toNatClampNeg))).bind fun x16 => zck v5 12 <| zck v2 12 <| (if (gI D 107 v5.toNatClampNeg) = (gI D 107 v2.toNatClampNeg) then ((if v3 = (-1 : Int32) then (((fn_X12_strangers_25 k9 n) v1 v2 x16 v4 (v5 + (1 : Int32)) D)) else ((if v3 ≤ x16 then (((fn_X12_strangers_25 k9 n) v1 v2 v3 v4 (v5 + (1 : Int32)) D)) else (((fn_X12_strangers_25 k9 n) v1 v2 x16 v4 (v5 + (1 : Int32)) D)))))) else ((if v4 = (-1 : Int32) then (((fn_X12_strangers_25 k9 n) v1 v2 v3 x16 (v5 + (1 : Int32)) D)) else ((if v4 ≤ x16 then (((fn_X12_strangers_25 k9 n) v1 v2 v3 v4 (v5 + (1 : Int32)) D)) else (((fn_X12_strangers_25 k9 n) v1 v2 v3 x16 (v5 + (1 : Int32)) D)))))))))))))
def fn_X12_strangers_9  : Nat → Int32 → Int32 → zD → Option (Int32 × zD)
  | 0, _, _, _ => none
  | n + 1, v1, v2, D => (if (gI D 102 16) ≤ v2 then ((some (v1, D))) else ((fn_X12_strangers_25 (fn_X12_strangers_9  n) zFU v1 v2 (-1 : Int32) (-1 : Int32) (0 : Int32) D)))
def fn_X12_strangers (D : zD) : Option (Int32 × zD) := zlet (sI D 102 0 (0 : Int32)) fun D1 => (fn_X12_strangers_9 zFU (0 : Int32) (0 : Int32) D1)
theorem s_X12_strangers_137 {X : zX} {Sh : zSh} {d : Nat} (hst : (zl X).stackTraces = false) (h0 : zSh0 Sh) (hd : 1 ≤ d) (k9 : Int32 → Int32 → zD → Option (Int32 × zD)) (hk9 : ∀ (v1 : Int32) (v2 : Int32) (D : zD) , Rn X m_X12_strangers (d + 1) 9 [(0, .ref 102), (1, .int v1), (2, .int v2)] [] (Sh, D) ((oI Sh) (k9 v1 v2 D))) (v1 : Int32) (v2 : Int32) (v3 : Int32) (v4 : Int32) (D : zD)  : Rn X m_X12_strangers (d + 1) 137 [(0, .ref 102), (1, .int v1), (2, .int v2), (3, .int v3), (4, .int v4)] [] (Sh, D) ((oI Sh) (fn_X12_strangers_137 k9 v1 v2 v3 v4 D)) := by
  rw [fn_X12_strangers_137]
  refine r_iload_n (pc := 137) 1 d_X12_strangers_137 rfl rfl ?_
  refine r_iload_n (pc := 138) 3 d_X12_strangers_138 rfl rfl ?_
  refine r_iconst (pc := 139) (-1 : Int32) d_X12_strangers_139 rfl ?_
  refine r_icmp_eq (f := (oI Sh)) (pc := 140) 161 d_X12_strangers_140 (by decide) (fun c4 => ?_) (fun c4 => ?_)
  · refine r_iconst (pc := 161) (0 : Int32) d_X12_strangers_161 rfl ?_
    refine r_ior (pc := 162) d_X12_strangers_162 ?_
    refine r_leti (f := (oI Sh)) (fun x5 => ?_)
    refine r_istore_n (pc := 163) (ls' := [(1, .int x5), (0, .ref 102), (2, .int v2), (3, .int v3), (4, .int v4)]) d_X12_strangers_163 rfl (Nat.le_of_ble_eq_true rfl) rfl ?_
    refine r_iinc (pc := 164) ((v2 + (1 : Int32))) 2 (ls' := [(2, .int (v2 + (1 : Int32))), (1, .int x5), (0, .ref 102), (3, .int v3), (4, .int v4)]) d_X12_strangers_164 rfl rfl (Nat.le_of_ble_eq_true rfl) rfl ?_
    refine r_goto (pc := 167) 9 d_X12_strangers_167 (by decide) ?_
    refine r_pick [2, 1, 0] (ls' := [(0, .ref 102), (1, .int x5), (2, .int (v2 + (1 : Int32)))]) rfl ?_
    exact hk9 x5 (v2 + (1 : Int32)) D 
  · refine r_iload (pc := 143) 4 d_X12_strangers_143 rfl ?_
    refine r_iconst (pc := 145) (-1 : Int32) d_X12_strangers_145 rfl ?_
    refine r_icmp_eq (f := (oI Sh)) (pc := 146) 161 d_X12_strangers_146 (by decide) (fun c6 => ?_) (fun c6 => ?_)
    · refine r_iconst (pc := 161) (0 : Int32) d_X12_strangers_161 rfl ?_
      refine r_ior (pc := 162) d_X12_strangers_162 ?_
      refine r_leti (f := (oI Sh)) (fun x7 => ?_)
      refine r_istore_n (pc := 163) (ls' := [(1, .int x7), (0, .ref 102), (2, .int v2), (3, .int v3), (4, .int v4)]) d_X12_strangers_163 rfl (Nat.le_of_ble_eq_true rfl) rfl ?_
      refine r_iinc (pc := 164) ((v2 + (1 : Int32))) 2 (ls' := [(2, .int (v2 + (1 : Int32))), (1, .int x7), (0, .ref 102), (3, .int v3), (4, .int v4)]) d_X12_strangers_164 rfl rfl (Nat.le_of_ble_eq_true rfl) rfl ?_
      refine r_goto (pc := 167) 9 d_X12_strangers_167 (by decide) ?_
      refine r_pick [2, 1, 0] (ls' := [(0, .ref 102), (1, .int x7), (2, .int (v2 + (1 : Int32)))]) rfl ?_
      exact hk9 x7 (v2 + (1 : Int32)) D 
    · refine r_iload (pc := 149) 4 d_X12_strangers_149 rfl ?_
      refine r_iload_n (pc := 151) 3 d_X12_strangers_151 rfl rfl ?_
      refine r_icmp_ge (f := (oI Sh)) (pc := 152) 161 d_X12_strangers_152 (by decide) (fun c8 => ?_) (fun c8 => ?_)
      · refine r_iconst (pc := 161) (0 : Int32) d_X12_strangers_161 rfl ?_
        refine r_ior (pc := 162) d_X12_strangers_162 ?_
        refine r_leti (f := (oI Sh)) (fun x9 => ?_)
        refine r_istore_n (pc := 163) (ls' := [(1, .int x9), (0, .ref 102), (2, .int v2), (3, .int v3), (4, .int v4)]) d_X12_strangers_163 rfl (Nat.le_of_ble_eq_true rfl) rfl ?_
        refine r_iinc (pc := 164) ((v2 + (1 : Int32))) 2 (ls' := [(2, .int (v2 + (1 : Int32))), (1, .int x9), (0, .ref 102), (3, .int v3), (4, .int v4)]) d_X12_strangers_164 rfl rfl (Nat.le_of_ble_eq_true rfl) rfl ?_
        refine r_goto (pc := 167) 9 d_X12_strangers_167 (by decide) ?_
        refine r_pick [2, 1, 0] (ls' := [(0, .ref 102), (1, .int x9), (2, .int (v2 + (1 : Int32)))]) rfl ?_
        exact hk9 x9 (v2 + (1 : Int32)) D 
      · refine r_iconst (pc := 155) (1 : Int32) d_X12_strangers_155 rfl ?_
        refine r_iload_n (pc := 156) 2 d_X12_strangers_156 rfl rfl ?_
        refine r_ishl (pc := 157) d_X12_strangers_157 ?_
        refine r_goto (pc := 158) 162 d_X12_strangers_158 (by decide) ?_
        refine r_ior (pc := 162) d_X12_strangers_162 ?_
        refine r_leti (f := (oI Sh)) (fun x10 => ?_)
        refine r_istore_n (pc := 163) (ls' := [(1, .int x10), (0, .ref 102), (2, .int v2), (3, .int v3), (4, .int v4)]) d_X12_strangers_163 rfl (Nat.le_of_ble_eq_true rfl) rfl ?_
        refine r_iinc (pc := 164) ((v2 + (1 : Int32))) 2 (ls' := [(2, .int (v2 + (1 : Int32))), (1, .int x10), (0, .ref 102), (3, .int v3), (4, .int v4)]) d_X12_strangers_164 rfl rfl (Nat.le_of_ble_eq_true rfl) rfl ?_
        refine r_goto (pc := 167) 9 d_X12_strangers_167 (by decide) ?_
        refine r_pick [2, 1, 0] (ls' := [(0, .ref 102), (1, .int x10), (2, .int (v2 + (1 : Int32)))]) rfl ?_
        exact hk9 x10 (v2 + (1 : Int32)) D 
theorem s_X12_strangers_25 {X : zX} {Sh : zSh} {d : Nat} (hst : (zl X).stackTraces = false) (h0 : zSh0 Sh) (hd : 1 ≤ d) (k9 : Int32 → Int32 → zD → Option (Int32 × zD)) (hk9 : ∀ (v1 : Int32) (v2 : Int32) (D : zD) , Rn X m_X12_strangers (d + 1) 9 [(0, .ref 102), (1, .int v1), (2, .int v2)] [] (Sh, D) ((oI Sh) (k9 v1 v2 D))) : ∀ (n : Nat) (v1 : Int32) (v2 : Int32) (v3 : Int32) (v4 : Int32) (v5 : Int32) (D : zD) , Rn X m_X12_strangers (d + 1) 25 [(0, .ref 102), (1, .int v1), (2, .int v2), (3, .int v3), (4, .int v4), (5, .int v5)] [] (Sh, D) ((oI Sh) (fn_X12_strangers_25 k9 n v1 v2 v3 v4 v5 D)) := by
  intro n
  induction n with
  | zero => intro v1 v2 v3 v4 v5 D; exact Rn_none rfl
  | succ n hk25 =>
    intro v1 v2 v3 v4 v5 D
    rw [fn_X12_strangers_25]
    refine r_iload (pc := 25) 5 d_X12_strangers_25 rfl ?_
    refine r_aload_n (pc := 27) 0 d_X12_strangers_27 rfl rfl ?_
    refine q_gI (pc := 28) g_X12_224 (K_102 h0) rfl d_X12_strangers_28 ?_
    refine r_icmp_ge (f := (oI Sh)) (pc := 31) 137 d_X12_strangers_31 (by decide) (fun c3 => ?_) (fun c3 => ?_)
    · refine r_pick [0, 1, 2, 3, 4] (ls' := [(0, .ref 102), (1, .int v1), (2, .int v2), (3, .int v3), (4, .int v4)]) rfl ?_
      exact s_X12_strangers_137 hst h0 hd k9 hk9 v1 v2 v3 v4 D
    · refine r_iload (pc := 34) 5 d_X12_strangers_34 rfl ?_
      refine r_iload_n (pc := 36) 2 d_X12_strangers_36 rfl rfl ?_
      refine r_icmp_eq (f := (oI Sh)) (pc := 37) 131 d_X12_strangers_37 (by decide) (fun c11 => ?_) (fun c11 => ?_)
      · refine r_iinc (pc := 131) ((v5 + (1 : Int32))) 5 (ls' := [(5, .int (v5 + (1 : Int32))), (0, .ref 102), (1, .int v1), (2, .int v2), (3, .int v3), (4, .int v4)]) d_X12_strangers_131 rfl rfl (Nat.le_of_ble_eq_true rfl) rfl ?_
        refine r_goto (pc := 134) 25 d_X12_strangers_134 (by decide) ?_
        refine r_pick [1, 2, 3, 4, 5, 0] (ls' := [(0, .ref 102), (1, .int v1), (2, .int v2), (3, .int v3), (4, .int v4), (5, .int (v5 + (1 : Int32)))]) rfl ?_
        exact hk25 v1 v2 v3 v4 (v5 + (1 : Int32)) D 
      · refine r_aload_n (pc := 40) 0 d_X12_strangers_40 rfl rfl ?_
        refine r_getR (pc := 41) g_X12_32 (K_102 h0) rfl (R_102_21 h0) d_X12_strangers_41 ?_
        refine r_iload_n (pc := 44) 2 d_X12_strangers_44 rfl rfl ?_
        refine r_ck (f := (oI Sh)) rfl (fun hc12 => ?_)
        refine q_iald (pc := 45) (j := v2.toNatClampNeg) (K_107 h0) hc12 rfl d_X12_strangers_45 ?_
        refine r_iconst (pc := 46) (-1 : Int32) d_X12_strangers_46 rfl ?_
        refine r_icmp_ne (f := (oI Sh)) (pc := 47) 53 d_X12_strangers_47 (by decide) (fun c13 => ?_) (fun c13 => ?_)
        · refine r_aload_n (pc := 53) 0 d_X12_strangers_53 rfl rfl ?_
          refine r_getR (pc := 54) g_X12_26 (K_102 h0) rfl (R_102_19 h0) d_X12_strangers_54 ?_
          refine r_iload_n (pc := 57) 2 d_X12_strangers_57 rfl rfl ?_
          refine r_ck (f := (oI Sh)) rfl (fun hc14 => ?_)
          refine q_iald (pc := 58) (j := v2.toNatClampNeg) (K_105 h0) hc14 rfl d_X12_strangers_58 ?_
          refine r_aload_n (pc := 59) 0 d_X12_strangers_59 rfl rfl ?_
          refine r_getR (pc := 60) g_X12_26 (K_102 h0) rfl (R_102_19 h0) d_X12_strangers_60 ?_
          refine r_iload (pc := 63) 5 d_X12_strangers_63 rfl ?_
          refine r_ck (f := (oI Sh)) rfl (fun hc15 => ?_)
          refine q_iald (pc := 65) (j := v5.toNatClampNeg) (K_105 h0) hc15 rfl d_X12_strangers_65 ?_
          refine r_ixor (pc := 66) d_X12_strangers_66 ?_
          refine q_cP (f := (oI Sh)) (av := [.int ((gI D 105 v2.toNatClampNeg) ^^^ (gI D 105 v5.toNatClampNeg))]) (st := []) (z_runS ck_X12_ones rfl ml_X12_293 cs_X12_ones rfl (Nat.le_of_ble_eq_true rfl) d_X12_strangers_67) (s_X12_ones hst h0 (by omega)) kp_I (fun x16 _ => ?_)
          refine r_istore (pc := 70) (ls' := [(6, .int x16), (0, .ref 102), (1, .int v1), (2, .int v2), (3, .int v3), (4, .int v4), (5, .int v5)]) d_X12_strangers_70 (Nat.le_of_ble_eq_true rfl) rfl ?_
          refine r_aload_n (pc := 72) 1 d_X12_strangers_72 rfl rfl ?_
          refine r_getR (pc := 73) g_X12_32 (K_102 h0) rfl (R_102_21 h0) d_X12_strangers_73 ?_
          refine r_iload (pc := 76) 6 d_X12_strangers_76 rfl ?_
          refine r_ck (f := (oI Sh)) rfl (fun hc17 => ?_)
          refine q_iald (pc := 78) (j := v5.toNatClampNeg) (K_107 h0) hc17 rfl d_X12_strangers_78 ?_
          refine r_aload_n (pc := 79) 1 d_X12_strangers_79 rfl rfl ?_
          refine r_getR (pc := 80) g_X12_32 (K_102 h0) rfl (R_102_21 h0) d_X12_strangers_80 ?_
          refine r_iload_n (pc := 83) 3 d_X12_strangers_83 rfl rfl ?_
          refine r_ck (f := (oI Sh)) rfl (fun hc18 => ?_)
          refine q_iald (pc := 84) (j := v2.toNatClampNeg) (K_107 h0) hc18 rfl d_X12_strangers_84 ?_
          refine r_icmp_ne (f := (oI Sh)) (pc := 85) 109 d_X12_strangers_85 (by decide) (fun c19 => ?_) (fun c19 => ?_)
          · refine r_iload (pc := 109) 5 d_X12_strangers_109 rfl ?_
            refine r_iconst (pc := 111) (-1 : Int32) d_X12_strangers_111 rfl ?_
            refine r_icmp_eq (f := (oI Sh)) (pc := 112) 122 d_X12_strangers_112 (by decide) (fun c20 => ?_) (fun c20 => ?_)
            · refine r_iload (pc := 122) 0 d_X12_strangers_122 rfl ?_
              refine r_goto (pc := 124) 129 d_X12_strangers_124 (by decide) ?_
              refine r_istore (pc := 129) (ls' := [(4, .int x16), (6, .int x16), (0, .ref 102), (1, .int v1), (2, .int v2), (3, .int v3), (5, .int v5)]) d_X12_strangers_129 (Nat.le_of_ble_eq_true rfl) rfl ?_
              refine r_iinc (pc := 131) ((v5 + (1 : Int32))) 6 (ls' := [(5, .int (v5 + (1 : Int32))), (4, .int x16), (6, .int x16), (0, .ref 102), (1, .int v1), (2, .int v2), (3, .int v3)]) d_X12_strangers_131 rfl rfl (Nat.le_of_ble_eq_true rfl) rfl ?_
              refine r_goto (pc := 134) 25 d_X12_strangers_134 (by decide) ?_
              refine r_pick [3, 4, 5, 6, 1, 0] (ls' := [(0, .ref 102), (1, .int v1), (2, .int v2), (3, .int v3), (4, .int x16), (5, .int (v5 + (1 : Int32)))]) rfl ?_
              exact hk25 v1 v2 v3 x16 (v5 + (1 : Int32)) D 
            · refine r_iload (pc := 115) 0 d_X12_strangers_115 rfl ?_
              refine r_iload (pc := 117) 5 d_X12_strangers_117 rfl ?_
              refine r_icmp_ge (f := (oI Sh)) (pc := 119) 127 d_X12_strangers_119 (by decide) (fun c21 => ?_) (fun c21 => ?_)
              · refine r_iload (pc := 127) 5 d_X12_strangers_127 rfl ?_
                refine r_istore (pc := 129) (ls' := [(4, .int v4), (6, .int x16), (0, .ref 102), (1, .int v1), (2, .int v2), (3, .int v3), (5, .int v5)]) d_X12_strangers_129 (Nat.le_of_ble_eq_true rfl) rfl ?_
                refine r_iinc (pc := 131) ((v5 + (1 : Int32))) 6 (ls' := [(5, .int (v5 + (1 : Int32))), (4, .int v4), (6, .int x16), (0, .ref 102), (1, .int v1), (2, .int v2), (3, .int v3)]) d_X12_strangers_131 rfl rfl (Nat.le_of_ble_eq_true rfl) rfl ?_
                refine r_goto (pc := 134) 25 d_X12_strangers_134 (by decide) ?_
                refine r_pick [3, 4, 5, 6, 1, 0] (ls' := [(0, .ref 102), (1, .int v1), (2, .int v2), (3, .int v3), (4, .int v4), (5, .int (v5 + (1 : Int32)))]) rfl ?_
                exact hk25 v1 v2 v3 v4 (v5 + (1 : Int32)) D 
              · refine r_iload (pc := 122) 0 d_X12_strangers_122 rfl ?_
                refine r_goto (pc := 124) 129 d_X12_strangers_124 (by decide) ?_
                refine r_istore (pc := 129) (ls' := [(4, .int x16), (6, .int x16), (0, .ref 102), (1, .int v1), (2, .int v2), (3, .int v3), (5, .int v5)]) d_X12_strangers_129 (Nat.le_of_ble_eq_true rfl) rfl ?_
                refine r_iinc (pc := 131) ((v5 + (1 : Int32))) 6 (ls' := [(5, .int (v5 + (1 : Int32))), (4, .int x16), (6, .int x16), (0, .ref 102), (1, .int v1), (2, .int v2), (3, .int v3)]) d_X12_strangers_131 rfl rfl (Nat.le_of_ble_eq_true rfl) rfl ?_
                refine r_goto (pc := 134) 25 d_X12_strangers_134 (by decide) ?_
                refine r_pick [3, 4, 5, 6, 1, 0] (ls' := [(0, .ref 102), (1, .int v1), (2, .int v2), (3, .int v3), (4, .int x16), (5, .int (v5 + (1 : Int32)))]) rfl ?_
                exact hk25 v1 v2 v3 x16 (v5 + (1 : Int32)) D 
          · refine r_iload_n (pc := 88) 4 d_X12_strangers_88 rfl rfl ?_
            refine r_iconst (pc := 89) (-1 : Int32) d_X12_strangers_89 rfl ?_
            refine r_icmp_eq (f := (oI Sh)) (pc := 90) 99 d_X12_strangers_90 (by decide) (fun c22 => ?_) (fun c22 => ?_)
            · refine r_iload (pc := 99) 0 d_X12_strangers_99 rfl ?_
              refine r_goto (pc := 101) 105 d_X12_strangers_101 (by decide) ?_
              refine r_istore_n (pc := 105) (ls' := [(3, .int x16), (6, .int x16), (0, .ref 102), (1, .int v1), (2, .int v2), (4, .int v4), (5, .int v5)]) d_X12_strangers_105 rfl (Nat.le_of_ble_eq_true rfl) rfl ?_
              refine r_goto (pc := 106) 131 d_X12_strangers_106 (by decide) ?_
              refine r_iinc (pc := 131) ((v5 + (1 : Int32))) 6 (ls' := [(5, .int (v5 + (1 : Int32))), (3, .int x16), (6, .int x16), (0, .ref 102), (1, .int v1), (2, .int v2), (4, .int v4)]) d_X12_strangers_131 rfl rfl (Nat.le_of_ble_eq_true rfl) rfl ?_
              refine r_goto (pc := 134) 25 d_X12_strangers_134 (by decide) ?_
              refine r_pick [3, 4, 5, 1, 6, 0] (ls' := [(0, .ref 102), (1, .int v1), (2, .int v2), (3, .int x16), (4, .int v4), (5, .int (v5 + (1 : Int32)))]) rfl ?_
              exact hk25 v1 v2 x16 v4 (v5 + (1 : Int32)) D 
            · refine r_iload (pc := 93) 0 d_X12_strangers_93 rfl ?_
              refine r_iload_n (pc := 95) 4 d_X12_strangers_95 rfl rfl ?_
              refine r_icmp_ge (f := (oI Sh)) (pc := 96) 104 d_X12_strangers_96 (by decide) (fun c23 => ?_) (fun c23 => ?_)
              · refine r_iload_n (pc := 104) 4 d_X12_strangers_104 rfl rfl ?_
                refine r_istore_n (pc := 105) (ls' := [(3, .int v3), (6, .int x16), (0, .ref 102), (1, .int v1), (2, .int v2), (4, .int v4), (5, .int v5)]) d_X12_strangers_105 rfl (Nat.le_of_ble_eq_true rfl) rfl ?_
                refine r_goto (pc := 106) 131 d_X12_strangers_106 (by decide) ?_
                refine r_iinc (pc := 131) ((v5 + (1 : Int32))) 6 (ls' := [(5, .int (v5 + (1 : Int32))), (3, .int v3), (6, .int x16), (0, .ref 102), (1, .int v1), (2, .int v2), (4, .int v4)]) d_X12_strangers_131 rfl rfl (Nat.le_of_ble_eq_true rfl) rfl ?_
                refine r_goto (pc := 134) 25 d_X12_strangers_134 (by decide) ?_
                refine r_pick [3, 4, 5, 1, 6, 0] (ls' := [(0, .ref 102), (1, .int v1), (2, .int v2), (3, .int v3), (4, .int v4), (5, .int (v5 + (1 : Int32)))]) rfl ?_
                exact hk25 v1 v2 v3 v4 (v5 + (1 : Int32)) D 
              · refine r_iload (pc := 99) 0 d_X12_strangers_99 rfl ?_
                refine r_goto (pc := 101) 105 d_X12_strangers_101 (by decide) ?_
                refine r_istore_n (pc := 105) (ls' := [(3, .int x16), (6, .int x16), (0, .ref 102), (1, .int v1), (2, .int v2), (4, .int v4), (5, .int v5)]) d_X12_strangers_105 rfl (Nat.le_of_ble_eq_true rfl) rfl ?_
                refine r_goto (pc := 106) 131 d_X12_strangers_106 (by decide) ?_
                refine r_iinc (pc := 131) ((v5 + (1 : Int32))) 6 (ls' := [(5, .int (v5 + (1 : Int32))), (3, .int x16), (6, .int x16), (0, .ref 102), (1, .int v1), (2, .int v2), (4, .int v4)]) d_X12_strangers_131 rfl rfl (Nat.le_of_ble_eq_true rfl) rfl ?_
                refine r_goto (pc := 134) 25 d_X12_strangers_134 (by decide) ?_
                refine r_pick [3, 4, 5, 1, 6, 0] (ls' := [(0, .ref 102), (1, .int v1), (2, .int v2), (3, .int x16), (4, .int v4), (5, .int (v5 + (1 : Int32)))]) rfl ?_
                exact hk25 v1 v2 x16 v4 (v5 + (1 : Int32)) D 
        · refine r_goto (pc := 50) 131 d_X12_strangers_50 (by decide) ?_
          refine r_iinc (pc := 131) ((v5 + (1 : Int32))) 5 (ls' := [(5, .int (v5 + (1 : Int32))), (0, .ref 102), (1, .int v1), (2, .int v2), (3, .int v3), (4, .int v4)]) d_X12_strangers_131 rfl rfl (Nat.le_of_ble_eq_true rfl) rfl ?_
          refine r_goto (pc := 134) 25 d_X12_strangers_134 (by decide) ?_
          refine r_pick [1, 2, 3, 4, 5, 0] (ls' := [(0, .ref 102), (1, .int v1), (2, .int v2), (3, .int v3), (4, .int v4), (5, .int (v5 + (1 : Int32)))]) rfl ?_
          exact hk25 v1 v2 v3 v4 (v5 + (1 : Int32)) D 
theorem s_X12_strangers_9 {X : zX} {Sh : zSh} {d : Nat} (hst : (zl X).stackTraces = false) (h0 : zSh0 Sh) (hd : 1 ≤ d)  : ∀ (n : Nat) (v1 : Int32) (v2 : Int32) (D : zD) , Rn X m_X12_strangers (d + 1) 9 [(0, .ref 102), (1, .int v1), (2, .int v2)] [] (Sh, D) ((oI Sh) (fn_X12_strangers_9  n v1 v2 D)) := by
  intro n
  induction n with
  | zero => intro v1 v2 D; exact Rn_none rfl
  | succ n hk9 =>
    intro v1 v2 D
    rw [fn_X12_strangers_9]
    refine r_iload_n (pc := 9) 2 d_X12_strangers_9 rfl rfl ?_
    refine r_aload_n (pc := 10) 0 d_X12_strangers_10 rfl rfl ?_
    refine q_gI (pc := 11) g_X12_224 (K_102 h0) rfl d_X12_strangers_11 ?_
    refine r_icmp_ge (f := (oI Sh)) (pc := 14) 170 d_X12_strangers_14 (by decide) (fun c2 => ?_) (fun c2 => ?_)
    · refine r_iload_n (pc := 170) 1 d_X12_strangers_170 rfl rfl ?_
      exact r_iret (pc := 171) rfl d_X12_strangers_171
    · refine r_iconst (pc := 17) (-1 : Int32) d_X12_strangers_17 rfl ?_
      refine r_istore_n (pc := 18) (ls' := [(3, .int (-1 : Int32)), (0, .ref 102), (1, .int v1), (2, .int v2)]) d_X12_strangers_18 rfl (Nat.le_of_ble_eq_true rfl) rfl ?_
      refine r_iconst (pc := 19) (-1 : Int32) d_X12_strangers_19 rfl ?_
      refine r_istore (pc := 20) (ls' := [(4, .int (-1 : Int32)), (3, .int (-1 : Int32)), (0, .ref 102), (1, .int v1), (2, .int v2)]) d_X12_strangers_20 (Nat.le_of_ble_eq_true rfl) rfl ?_
      refine r_iconst (pc := 22) (0 : Int32) d_X12_strangers_22 rfl ?_
      refine r_istore (pc := 23) (ls' := [(5, .int (0 : Int32)), (4, .int (-1 : Int32)), (3, .int (-1 : Int32)), (0, .ref 102), (1, .int v1), (2, .int v2)]) d_X12_strangers_23 (Nat.le_of_ble_eq_true rfl) rfl ?_
      refine r_pick [3, 4, 5, 2, 1, 0] (ls' := [(0, .ref 102), (1, .int v1), (2, .int v2), (3, .int (-1 : Int32)), (4, .int (-1 : Int32)), (5, .int (0 : Int32))]) rfl ?_
      exact s_X12_strangers_25 hst h0 hd (fn_X12_strangers_9  n) hk9 zFU  v1 v2 (-1 : Int32) (-1 : Int32) (0 : Int32) D
theorem s_X12_strangers {X : zX} {Sh : zSh} {d : Nat} (hst : (zl X).stackTraces = false) (h0 : zSh0 Sh) (hd : 2 ≤ d)  {D : zD} : Sd X m_X12_strangers d [.ref 102] (Sh, D) ((oI Sh) (fn_X12_strangers D)) := by
  obtain ⟨d, rfl⟩ : ∃ e, d = e + 1 := ⟨d - 1, by omega⟩
  replace hd : 1 ≤ d := by omega
  refine z_body ck_X12_strangers rfl (Nat.le_of_ble_eq_true rfl) rfl hst ?_
  rw [fn_X12_strangers]
  show Rn X m_X12_strangers (d + 1) 0 [(0, .ref 102)] [] (Sh, D) _
  refine r_aload_n (pc := 0) 0 d_X12_strangers_0 rfl rfl ?_
  refine r_iconst (pc := 1) (0 : Int32) d_X12_strangers_1 rfl ?_
  refine r_putI (pc := 2) p_X12_113 (K_102 h0) rfl (Or.inl rfl) d_X12_strangers_2 ?_
  refine r_letD (f := (oI Sh)) (fun D1 => ?_)
  refine r_iconst (pc := 5) (0 : Int32) d_X12_strangers_5 rfl ?_
  refine r_istore_n (pc := 6) (ls' := [(1, .int (0 : Int32)), (0, .ref 102)]) d_X12_strangers_6 rfl (Nat.le_of_ble_eq_true rfl) rfl ?_
  refine r_iconst (pc := 7) (0 : Int32) d_X12_strangers_7 rfl ?_
  refine r_istore_n (pc := 8) (ls' := [(2, .int (0 : Int32)), (1, .int (0 : Int32)), (0, .ref 102)]) d_X12_strangers_8 rfl (Nat.le_of_ble_eq_true rfl) rfl ?_
  refine r_pick [2, 1, 0] (ls' := [(0, .ref 102), (1, .int (0 : Int32)), (2, .int (0 : Int32))]) rfl ?_
  exact s_X12_strangers_9 hst h0 hd zFU  (0 : Int32) (0 : Int32) D1
/-! CoveredSignsModel.couldBe -/
theorem d_X12_couldBe_0 : decode (yB m_X12_couldBe) 0 = .ok (.iconst 0, 1) := by decide +kernel
theorem d_X12_couldBe_1 : decode (yB m_X12_couldBe) 1 = .ok (.istore_n 3, 1) := by decide +kernel
theorem d_X12_couldBe_2 : decode (yB m_X12_couldBe) 2 = .ok (.iload_n 3, 1) := by decide +kernel
theorem d_X12_couldBe_3 : decode (yB m_X12_couldBe) 3 = .ok (.aload_n 0, 1) := by decide +kernel
theorem d_X12_couldBe_4 : decode (yB m_X12_couldBe) 4 = .ok (.getfield 224, 3) := by decide +kernel
theorem d_X12_couldBe_7 : decode (yB m_X12_couldBe) 7 = .ok (.if_icmp .ge 60, 3) := by decide +kernel
theorem d_X12_couldBe_10 : decode (yB m_X12_couldBe) 10 = .ok (.iconst 0, 1) := by decide +kernel
theorem d_X12_couldBe_11 : decode (yB m_X12_couldBe) 11 = .ok (.istore 4, 2) := by decide +kernel
theorem d_X12_couldBe_13 : decode (yB m_X12_couldBe) 13 = .ok (.iload 4, 2) := by decide +kernel
theorem d_X12_couldBe_15 : decode (yB m_X12_couldBe) 15 = .ok (.iload_n 3, 1) := by decide +kernel
theorem d_X12_couldBe_16 : decode (yB m_X12_couldBe) 16 = .ok (.if_icmp .ge 45, 3) := by decide +kernel
theorem d_X12_couldBe_19 : decode (yB m_X12_couldBe) 19 = .ok (.aload_n 0, 1) := by decide +kernel
theorem d_X12_couldBe_20 : decode (yB m_X12_couldBe) 20 = .ok (.getfield 75, 3) := by decide +kernel
theorem d_X12_couldBe_23 : decode (yB m_X12_couldBe) 23 = .ok (.iload_n 3, 1) := by decide +kernel
theorem d_X12_couldBe_24 : decode (yB m_X12_couldBe) 24 = .ok (.aaload, 1) := by decide +kernel
theorem d_X12_couldBe_25 : decode (yB m_X12_couldBe) 25 = .ok (.iload 4, 2) := by decide +kernel
theorem d_X12_couldBe_27 : decode (yB m_X12_couldBe) 27 = .ok (.baload, 1) := by decide +kernel
theorem d_X12_couldBe_28 : decode (yB m_X12_couldBe) 28 = .ok (.ifCond .eq 27, 3) := by decide +kernel
theorem d_X12_couldBe_31 : decode (yB m_X12_couldBe) 31 = .ok (.iload_n 3, 1) := by decide +kernel
theorem d_X12_couldBe_32 : decode (yB m_X12_couldBe) 32 = .ok (.iload_n 1, 1) := by decide +kernel
theorem d_X12_couldBe_33 : decode (yB m_X12_couldBe) 33 = .ok (.if_icmp .eq 22, 3) := by decide +kernel
theorem d_X12_couldBe_36 : decode (yB m_X12_couldBe) 36 = .ok (.iload 4, 2) := by decide +kernel
theorem d_X12_couldBe_38 : decode (yB m_X12_couldBe) 38 = .ok (.iload_n 1, 1) := by decide +kernel
theorem d_X12_couldBe_39 : decode (yB m_X12_couldBe) 39 = .ok (.if_icmp .eq 16, 3) := by decide +kernel
theorem d_X12_couldBe_42 : decode (yB m_X12_couldBe) 42 = .ok (.iload_n 3, 1) := by decide +kernel
theorem d_X12_couldBe_43 : decode (yB m_X12_couldBe) 43 = .ok (.iload_n 2, 1) := by decide +kernel
theorem d_X12_couldBe_44 : decode (yB m_X12_couldBe) 44 = .ok (.if_icmp .eq 11, 3) := by decide +kernel
theorem d_X12_couldBe_47 : decode (yB m_X12_couldBe) 47 = .ok (.iload 4, 2) := by decide +kernel
theorem d_X12_couldBe_49 : decode (yB m_X12_couldBe) 49 = .ok (.iload_n 2, 1) := by decide +kernel
theorem d_X12_couldBe_50 : decode (yB m_X12_couldBe) 50 = .ok (.if_icmp .eq 5, 3) := by decide +kernel
theorem d_X12_couldBe_53 : decode (yB m_X12_couldBe) 53 = .ok (.iconst 0, 1) := by decide +kernel
theorem d_X12_couldBe_54 : decode (yB m_X12_couldBe) 54 = .ok (.ireturn, 1) := by decide +kernel
theorem d_X12_couldBe_55 : decode (yB m_X12_couldBe) 55 = .ok (.iinc 4 1, 3) := by decide +kernel
theorem d_X12_couldBe_58 : decode (yB m_X12_couldBe) 58 = .ok (.goto (-45), 3) := by decide +kernel
theorem d_X12_couldBe_61 : decode (yB m_X12_couldBe) 61 = .ok (.iinc 3 1, 3) := by decide +kernel
theorem d_X12_couldBe_64 : decode (yB m_X12_couldBe) 64 = .ok (.goto (-62), 3) := by decide +kernel
theorem d_X12_couldBe_67 : decode (yB m_X12_couldBe) 67 = .ok (.iconst 1, 1) := by decide +kernel
theorem d_X12_couldBe_68 : decode (yB m_X12_couldBe) 68 = .ok (.ireturn, 1) := by decide +kernel
def fn_X12_couldBe_13 (v1 : Int32) (v2 : Int32) (D : zD) (k2 : Int32 → Option Int32) : Nat → Int32 → Int32 → Option Int32
  | 0, _, _ => none
  | n + 1, v3, v4 => (if v3 ≤ v4 then ((k2 (v3 + (1 : Int32)))) else (zck v3 12 <| zck v4 12 <| (if (gI D (183 + v3.toNatClampNeg) v4.toNatClampNeg) = 0 then (((fn_X12_couldBe_13 v1 v2 D k2 n) v3 (v4 + (1 : Int32)))) else ((if v3 = v1 then (((fn_X12_couldBe_13 v1 v2 D k2 n) v3 (v4 + (1 : Int32)))) else ((if v4 = v1 then (((fn_X12_couldBe_13 v1 v2 D k2 n) v3 (v4 + (1 : Int32)))) else ((if v3 = v2 then (((fn_X12_couldBe_13 v1 v2 D k2 n) v3 (v4 + (1 : Int32)))) else ((if v4 = v2 then (((fn_X12_couldBe_13 v1 v2 D k2 n) v3 (v4 + (1 : Int32)))) else ((some (0 : Int32))))))))))))))
def fn_X12_couldBe_2 (v1 : Int32) (v2 : Int32) (D : zD) : Nat → Int32 → Option Int32
  | 0, _ => none
  | n + 1, v3 => (if (gI D 102 16) ≤ v3 then ((some (1 : Int32))) else ((fn_X12_couldBe_13 v1 v2 D (fn_X12_couldBe_2 v1 v2 D n) zFU v3 (0 : Int32))))
def fn_X12_couldBe (v1 : Int32) (v2 : Int32) (D : zD) : Option Int32 := (fn_X12_couldBe_2 v1 v2 D zFU (0 : Int32))
theorem s_X12_couldBe_13 {X : zX} {Sh : zSh} {d : Nat} (hst : (zl X).stackTraces = false) (h0 : zSh0 Sh) (hd : 0 ≤ d) {v1 : Int32} {v2 : Int32} (D : zD) (k2 : Int32 → Option Int32) (hk2 : ∀ (v3 : Int32) , Rn X m_X12_couldBe (d + 1) 2 [(0, .ref 102), (1, .int v1), (2, .int v2), (3, .int v3)] [] (Sh, D) ((oP Sh D) (k2 v3))) : ∀ (n : Nat) (v3 : Int32) (v4 : Int32) , Rn X m_X12_couldBe (d + 1) 13 [(0, .ref 102), (1, .int v1), (2, .int v2), (3, .int v3), (4, .int v4)] [] (Sh, D) ((oP Sh D) (fn_X12_couldBe_13 v1 v2 D k2 n v3 v4)) := by
  intro n
  induction n with
  | zero => intro v3 v4; exact Rn_none rfl
  | succ n hk13 =>
    intro v3 v4
    rw [fn_X12_couldBe_13]
    refine r_iload (pc := 13) 4 d_X12_couldBe_13 rfl ?_
    refine r_iload_n (pc := 15) 3 d_X12_couldBe_15 rfl rfl ?_
    refine r_icmp_ge (f := (oP Sh D)) (pc := 16) 61 d_X12_couldBe_16 (by decide) (fun c2 => ?_) (fun c2 => ?_)
    · refine r_iinc (pc := 61) ((v3 + (1 : Int32))) 3 (ls' := [(3, .int (v3 + (1 : Int32))), (0, .ref 102), (1, .int v1), (2, .int v2), (4, .int v4)]) d_X12_couldBe_61 rfl rfl (Nat.le_of_ble_eq_true rfl) rfl ?_
      refine r_goto (pc := 64) 2 d_X12_couldBe_64 (by decide) ?_
      refine r_pick [1, 2, 3, 0] (ls' := [(0, .ref 102), (1, .int v1), (2, .int v2), (3, .int (v3 + (1 : Int32)))]) rfl ?_
      exact hk2 (v3 + (1 : Int32)) 
    · refine r_aload_n (pc := 19) 0 d_X12_couldBe_19 rfl rfl ?_
      refine r_getR (pc := 20) g_X12_75 (K_102 h0) rfl (R_102_42 h0) d_X12_couldBe_20 ?_
      refine r_iload_n (pc := 23) 3 d_X12_couldBe_23 rfl rfl ?_
      refine r_ck (f := (oP Sh D)) rfl (fun hc3 => ?_)
      refine q_aald (pc := 24) (j := v3.toNatClampNeg) (K_182 h0) (Or.inr (Or.inl ⟨rfl, rfl⟩)) hc3 rfl (RW_182 h0 _ (z_lt hc3)) d_X12_couldBe_24 ?_
      refine r_iload (pc := 25) 4 d_X12_couldBe_25 rfl ?_
      refine r_ck (f := (oP Sh D)) rfl (fun hc4 => ?_)
      refine q_zald (pc := 27) (j := v4.toNatClampNeg) (RK_182 h0 _ (z_lt hc3)) hc4 rfl d_X12_couldBe_27 ?_
      refine r_if_eq (f := (oP Sh D)) (pc := 28) 55 d_X12_couldBe_28 (by decide) (fun c5 => ?_) (fun c5 => ?_)
      · refine r_iinc (pc := 55) ((v4 + (1 : Int32))) 4 (ls' := [(4, .int (v4 + (1 : Int32))), (0, .ref 102), (1, .int v1), (2, .int v2), (3, .int v3)]) d_X12_couldBe_55 rfl rfl (Nat.le_of_ble_eq_true rfl) rfl ?_
        refine r_goto (pc := 58) 13 d_X12_couldBe_58 (by decide) ?_
        refine r_pick [1, 2, 3, 4, 0] (ls' := [(0, .ref 102), (1, .int v1), (2, .int v2), (3, .int v3), (4, .int (v4 + (1 : Int32)))]) rfl ?_
        exact hk13 v3 (v4 + (1 : Int32)) 
      · refine r_iload_n (pc := 31) 3 d_X12_couldBe_31 rfl rfl ?_
        refine r_iload_n (pc := 32) 1 d_X12_couldBe_32 rfl rfl ?_
        refine r_icmp_eq (f := (oP Sh D)) (pc := 33) 55 d_X12_couldBe_33 (by decide) (fun c6 => ?_) (fun c6 => ?_)
        · refine r_iinc (pc := 55) ((v4 + (1 : Int32))) 4 (ls' := [(4, .int (v4 + (1 : Int32))), (0, .ref 102), (1, .int v1), (2, .int v2), (3, .int v3)]) d_X12_couldBe_55 rfl rfl (Nat.le_of_ble_eq_true rfl) rfl ?_
          refine r_goto (pc := 58) 13 d_X12_couldBe_58 (by decide) ?_
          refine r_pick [1, 2, 3, 4, 0] (ls' := [(0, .ref 102), (1, .int v1), (2, .int v2), (3, .int v3), (4, .int (v4 + (1 : Int32)))]) rfl ?_
          exact hk13 v3 (v4 + (1 : Int32)) 
        · refine r_iload (pc := 36) 4 d_X12_couldBe_36 rfl ?_
          refine r_iload_n (pc := 38) 1 d_X12_couldBe_38 rfl rfl ?_
          refine r_icmp_eq (f := (oP Sh D)) (pc := 39) 55 d_X12_couldBe_39 (by decide) (fun c7 => ?_) (fun c7 => ?_)
          · refine r_iinc (pc := 55) ((v4 + (1 : Int32))) 4 (ls' := [(4, .int (v4 + (1 : Int32))), (0, .ref 102), (1, .int v1), (2, .int v2), (3, .int v3)]) d_X12_couldBe_55 rfl rfl (Nat.le_of_ble_eq_true rfl) rfl ?_
            refine r_goto (pc := 58) 13 d_X12_couldBe_58 (by decide) ?_
            refine r_pick [1, 2, 3, 4, 0] (ls' := [(0, .ref 102), (1, .int v1), (2, .int v2), (3, .int v3), (4, .int (v4 + (1 : Int32)))]) rfl ?_
            exact hk13 v3 (v4 + (1 : Int32)) 
          · refine r_iload_n (pc := 42) 3 d_X12_couldBe_42 rfl rfl ?_
            refine r_iload_n (pc := 43) 2 d_X12_couldBe_43 rfl rfl ?_
            refine r_icmp_eq (f := (oP Sh D)) (pc := 44) 55 d_X12_couldBe_44 (by decide) (fun c8 => ?_) (fun c8 => ?_)
            · refine r_iinc (pc := 55) ((v4 + (1 : Int32))) 4 (ls' := [(4, .int (v4 + (1 : Int32))), (0, .ref 102), (1, .int v1), (2, .int v2), (3, .int v3)]) d_X12_couldBe_55 rfl rfl (Nat.le_of_ble_eq_true rfl) rfl ?_
              refine r_goto (pc := 58) 13 d_X12_couldBe_58 (by decide) ?_
              refine r_pick [1, 2, 3, 4, 0] (ls' := [(0, .ref 102), (1, .int v1), (2, .int v2), (3, .int v3), (4, .int (v4 + (1 : Int32)))]) rfl ?_
              exact hk13 v3 (v4 + (1 : Int32)) 
            · refine r_iload (pc := 47) 4 d_X12_couldBe_47 rfl ?_
              refine r_iload_n (pc := 49) 2 d_X12_couldBe_49 rfl rfl ?_
              refine r_icmp_eq (f := (oP Sh D)) (pc := 50) 55 d_X12_couldBe_50 (by decide) (fun c9 => ?_) (fun c9 => ?_)
              · refine r_iinc (pc := 55) ((v4 + (1 : Int32))) 4 (ls' := [(4, .int (v4 + (1 : Int32))), (0, .ref 102), (1, .int v1), (2, .int v2), (3, .int v3)]) d_X12_couldBe_55 rfl rfl (Nat.le_of_ble_eq_true rfl) rfl ?_
                refine r_goto (pc := 58) 13 d_X12_couldBe_58 (by decide) ?_
                refine r_pick [1, 2, 3, 4, 0] (ls' := [(0, .ref 102), (1, .int v1), (2, .int v2), (3, .int v3), (4, .int (v4 + (1 : Int32)))]) rfl ?_
                exact hk13 v3 (v4 + (1 : Int32)) 
              · refine r_iconst (pc := 53) (0 : Int32) d_X12_couldBe_53 rfl ?_
                exact r_zret (pc := 54) rfl (by decide) d_X12_couldBe_54
theorem s_X12_couldBe_2 {X : zX} {Sh : zSh} {d : Nat} (hst : (zl X).stackTraces = false) (h0 : zSh0 Sh) (hd : 0 ≤ d) {v1 : Int32} {v2 : Int32} (D : zD) : ∀ (n : Nat) (v3 : Int32) , Rn X m_X12_couldBe (d + 1) 2 [(0, .ref 102), (1, .int v1), (2, .int v2), (3, .int v3)] [] (Sh, D) ((oP Sh D) (fn_X12_couldBe_2 v1 v2 D n v3)) := by
  intro n
  induction n with
  | zero => intro v3; exact Rn_none rfl
  | succ n hk2 =>
    intro v3
    rw [fn_X12_couldBe_2]
    refine r_iload_n (pc := 2) 3 d_X12_couldBe_2 rfl rfl ?_
    refine r_aload_n (pc := 3) 0 d_X12_couldBe_3 rfl rfl ?_
    refine q_gI (pc := 4) g_X12_224 (K_102 h0) rfl d_X12_couldBe_4 ?_
    refine r_icmp_ge (f := (oP Sh D)) (pc := 7) 67 d_X12_couldBe_7 (by decide) (fun c1 => ?_) (fun c1 => ?_)
    · refine r_iconst (pc := 67) (1 : Int32) d_X12_couldBe_67 rfl ?_
      exact r_zret (pc := 68) rfl (by decide) d_X12_couldBe_68
    · refine r_iconst (pc := 10) (0 : Int32) d_X12_couldBe_10 rfl ?_
      refine r_istore (pc := 11) (ls' := [(4, .int (0 : Int32)), (0, .ref 102), (1, .int v1), (2, .int v2), (3, .int v3)]) d_X12_couldBe_11 (Nat.le_of_ble_eq_true rfl) rfl ?_
      refine r_pick [1, 2, 3, 4, 0] (ls' := [(0, .ref 102), (1, .int v1), (2, .int v2), (3, .int v3), (4, .int (0 : Int32))]) rfl ?_
      exact s_X12_couldBe_13 hst h0 hd D (fn_X12_couldBe_2 v1 v2 D n) hk2 zFU  v3 (0 : Int32)
theorem s_X12_couldBe {X : zX} {Sh : zSh} {d : Nat} (hst : (zl X).stackTraces = false) (h0 : zSh0 Sh) (hd : 1 ≤ d) {v1 : Int32} {v2 : Int32} {D : zD} : Sd X m_X12_couldBe d [.ref 102, .int v1, .int v2] (Sh, D) ((oP Sh D) (fn_X12_couldBe v1 v2 D)) := by
  obtain ⟨d, rfl⟩ : ∃ e, d = e + 1 := ⟨d - 1, by omega⟩
  replace hd : 0 ≤ d := by omega
  refine z_body ck_X12_couldBe rfl (Nat.le_of_ble_eq_true rfl) rfl hst ?_
  rw [fn_X12_couldBe]
  show Rn X m_X12_couldBe (d + 1) 0 [(0, .ref 102), (1, .int v1), (2, .int v2)] [] (Sh, D) _
  refine r_iconst (pc := 0) (0 : Int32) d_X12_couldBe_0 rfl ?_
  refine r_istore_n (pc := 1) (ls' := [(3, .int (0 : Int32)), (0, .ref 102), (1, .int v1), (2, .int v2)]) d_X12_couldBe_1 rfl (Nat.le_of_ble_eq_true rfl) rfl ?_
  refine r_pick [1, 2, 3, 0] (ls' := [(0, .ref 102), (1, .int v1), (2, .int v2), (3, .int (0 : Int32))]) rfl ?_
  exact s_X12_couldBe_2 hst h0 hd D zFU  (0 : Int32)
/-! CoveredSignsModel.flips -/
theorem d_X12_flips_0 : decode (yB m_X12_flips) 0 = .ok (.aload_n 0, 1) := by decide +kernel
theorem d_X12_flips_1 : decode (yB m_X12_flips) 1 = .ok (.getfield 78, 3) := by decide +kernel
theorem d_X12_flips_4 : decode (yB m_X12_flips) 4 = .ok (.iload_n 1, 1) := by decide +kernel
theorem d_X12_flips_5 : decode (yB m_X12_flips) 5 = .ok (.aload_n 0, 1) := by decide +kernel
theorem d_X12_flips_6 : decode (yB m_X12_flips) 6 = .ok (.invokevirtual 242, 3) := by decide +kernel
theorem d_X12_flips_9 : decode (yB m_X12_flips) 9 = .ok (.idiv, 1) := by decide +kernel
theorem d_X12_flips_10 : decode (yB m_X12_flips) 10 = .ok (.dup2, 1) := by decide +kernel
theorem d_X12_flips_11 : decode (yB m_X12_flips) 11 = .ok (.iaload, 1) := by decide +kernel
theorem d_X12_flips_12 : decode (yB m_X12_flips) 12 = .ok (.iconst 1, 1) := by decide +kernel
theorem d_X12_flips_13 : decode (yB m_X12_flips) 13 = .ok (.iload_n 1, 1) := by decide +kernel
theorem d_X12_flips_14 : decode (yB m_X12_flips) 14 = .ok (.aload_n 0, 1) := by decide +kernel
theorem d_X12_flips_15 : decode (yB m_X12_flips) 15 = .ok (.invokevirtual 242, 3) := by decide +kernel
theorem d_X12_flips_18 : decode (yB m_X12_flips) 18 = .ok (.irem, 1) := by decide +kernel
theorem d_X12_flips_19 : decode (yB m_X12_flips) 19 = .ok (.ishl, 1) := by decide +kernel
theorem d_X12_flips_20 : decode (yB m_X12_flips) 20 = .ok (.ixor, 1) := by decide +kernel
theorem d_X12_flips_21 : decode (yB m_X12_flips) 21 = .ok (.iastore, 1) := by decide +kernel
theorem d_X12_flips_22 : decode (yB m_X12_flips) 22 = .ok (.return_, 1) := by decide +kernel
def fn_X12_flips (v1 : Int32) (D : zD) : Option zD := (fn_X12_cells D).bind fun x1 => zdv x1 <| zck (v1 / x1) 12 <| (fn_X12_cells D).bind fun x3 => zdv x3 <| zck (v1 / x1) 12 <| zlet (sI D 195 (v1 / x1).toNatClampNeg ((gI D 195 (v1 / x1).toNatClampNeg) ^^^ ((1 : Int32) <<< ((v1 - v1 / x3 * x3) &&& 31)))) fun D5 => (some D5)
theorem s_X12_flips {X : zX} {Sh : zSh} {d : Nat} (hst : (zl X).stackTraces = false) (h0 : zSh0 Sh) (hd : 2 ≤ d) {v1 : Int32} {D : zD} : Sd X m_X12_flips d [.ref 102, .int v1] (Sh, D) ((oV Sh) (fn_X12_flips v1 D)) := by
  obtain ⟨d, rfl⟩ : ∃ e, d = e + 1 := ⟨d - 1, by omega⟩
  replace hd : 1 ≤ d := by omega
  refine z_body ck_X12_flips rfl (Nat.le_of_ble_eq_true rfl) rfl hst ?_
  rw [fn_X12_flips]
  show Rn X m_X12_flips (d + 1) 0 [(0, .ref 102), (1, .int v1)] [] (Sh, D) _
  refine r_aload_n (pc := 0) 0 d_X12_flips_0 rfl rfl ?_
  refine r_getR (pc := 1) g_X12_78 (K_102 h0) rfl (R_102_43 h0) d_X12_flips_1 ?_
  refine r_iload_n (pc := 4) 1 d_X12_flips_4 rfl rfl ?_
  refine r_aload_n (pc := 5) 0 d_X12_flips_5 rfl rfl ?_
  refine q_cP (f := (oV Sh)) (av := [.ref 102]) (st := [.int v1, .ref 195]) (z_runV ck_X12_cells rfl ml_X12_242 ci_X12_cells cv_X12_cells (K_102 h0) (ci := 12) rfl rfl (Nat.le_of_ble_eq_true rfl) d_X12_flips_6) (s_X12_cells hst h0 (by omega)) kp_V (fun x1 _ => ?_)
  refine r_idiv (f := (oV Sh)) (pc := 9) d_X12_flips_9 rfl ?_
  refine r_dup2 (pc := 10) d_X12_flips_10 rfl rfl ?_
  refine r_ck (f := (oV Sh)) rfl (fun hc2 => ?_)
  refine q_iald (pc := 11) (j := (v1 / x1).toNatClampNeg) (K_195 h0) hc2 rfl d_X12_flips_11 ?_
  refine r_iconst (pc := 12) (1 : Int32) d_X12_flips_12 rfl ?_
  refine r_iload_n (pc := 13) 1 d_X12_flips_13 rfl rfl ?_
  refine r_aload_n (pc := 14) 0 d_X12_flips_14 rfl rfl ?_
  refine q_cP (f := (oV Sh)) (av := [.ref 102]) (st := [.int v1, .int (1 : Int32), .int (gI D 195 (v1 / x1).toNatClampNeg), .int (v1 / x1), .ref 195]) (z_runV ck_X12_cells rfl ml_X12_242 ci_X12_cells cv_X12_cells (K_102 h0) (ci := 12) rfl rfl (Nat.le_of_ble_eq_true rfl) d_X12_flips_15) (s_X12_cells hst h0 (by omega)) kp_V (fun x3 _ => ?_)
  refine r_irem (f := (oV Sh)) (pc := 18) d_X12_flips_18 rfl ?_
  refine r_ishl (pc := 19) d_X12_flips_19 ?_
  refine r_ixor (pc := 20) d_X12_flips_20 ?_
  refine r_ck (f := (oV Sh)) rfl (fun hc4 => ?_)
  refine q_iast (pc := 21) (j := (v1 / x1).toNatClampNeg) (K_195 h0) hc4 rfl  d_X12_flips_21 ?_
  refine r_letD (f := (oV Sh)) (fun D5 => ?_)
  exact r_vret (pc := 22) rfl d_X12_flips_22
/-! CoveredSignsModel.isClear -/
theorem d_X12_isClear_0 : decode (yB m_X12_isClear) 0 = .ok (.iconst 0, 1) := by decide +kernel
theorem d_X12_isClear_1 : decode (yB m_X12_isClear) 1 = .ok (.istore_n 1, 1) := by decide +kernel
theorem d_X12_isClear_2 : decode (yB m_X12_isClear) 2 = .ok (.iload_n 1, 1) := by decide +kernel
theorem d_X12_isClear_3 : decode (yB m_X12_isClear) 3 = .ok (.aload_n 0, 1) := by decide +kernel
theorem d_X12_isClear_4 : decode (yB m_X12_isClear) 4 = .ok (.getfield 224, 3) := by decide +kernel
theorem d_X12_isClear_7 : decode (yB m_X12_isClear) 7 = .ok (.if_icmp .ge 44, 3) := by decide +kernel
theorem d_X12_isClear_10 : decode (yB m_X12_isClear) 10 = .ok (.iconst 0, 1) := by decide +kernel
theorem d_X12_isClear_11 : decode (yB m_X12_isClear) 11 = .ok (.istore_n 2, 1) := by decide +kernel
theorem d_X12_isClear_12 : decode (yB m_X12_isClear) 12 = .ok (.iload_n 2, 1) := by decide +kernel
theorem d_X12_isClear_13 : decode (yB m_X12_isClear) 13 = .ok (.iload_n 1, 1) := by decide +kernel
theorem d_X12_isClear_14 : decode (yB m_X12_isClear) 14 = .ok (.if_icmp .ge 31, 3) := by decide +kernel
theorem d_X12_isClear_17 : decode (yB m_X12_isClear) 17 = .ok (.aload_n 0, 1) := by decide +kernel
theorem d_X12_isClear_18 : decode (yB m_X12_isClear) 18 = .ok (.aload_n 0, 1) := by decide +kernel
theorem d_X12_isClear_19 : decode (yB m_X12_isClear) 19 = .ok (.getfield 78, 3) := by decide +kernel
theorem d_X12_isClear_22 : decode (yB m_X12_isClear) 22 = .ok (.iload_n 1, 1) := by decide +kernel
theorem d_X12_isClear_23 : decode (yB m_X12_isClear) 23 = .ok (.iaload, 1) := by decide +kernel
theorem d_X12_isClear_24 : decode (yB m_X12_isClear) 24 = .ok (.aload_n 0, 1) := by decide +kernel
theorem d_X12_isClear_25 : decode (yB m_X12_isClear) 25 = .ok (.getfield 78, 3) := by decide +kernel
theorem d_X12_isClear_28 : decode (yB m_X12_isClear) 28 = .ok (.iload_n 2, 1) := by decide +kernel
theorem d_X12_isClear_29 : decode (yB m_X12_isClear) 29 = .ok (.iaload, 1) := by decide +kernel
theorem d_X12_isClear_30 : decode (yB m_X12_isClear) 30 = .ok (.invokevirtual 302, 3) := by decide +kernel
theorem d_X12_isClear_33 : decode (yB m_X12_isClear) 33 = .ok (.iconst (-1), 1) := by decide +kernel
theorem d_X12_isClear_34 : decode (yB m_X12_isClear) 34 = .ok (.if_icmp .eq 5, 3) := by decide +kernel
theorem d_X12_isClear_37 : decode (yB m_X12_isClear) 37 = .ok (.iconst 0, 1) := by decide +kernel
theorem d_X12_isClear_38 : decode (yB m_X12_isClear) 38 = .ok (.ireturn, 1) := by decide +kernel
theorem d_X12_isClear_39 : decode (yB m_X12_isClear) 39 = .ok (.iinc 2 1, 3) := by decide +kernel
theorem d_X12_isClear_42 : decode (yB m_X12_isClear) 42 = .ok (.goto (-30), 3) := by decide +kernel
theorem d_X12_isClear_45 : decode (yB m_X12_isClear) 45 = .ok (.iinc 1 1, 3) := by decide +kernel
theorem d_X12_isClear_48 : decode (yB m_X12_isClear) 48 = .ok (.goto (-46), 3) := by decide +kernel
theorem d_X12_isClear_51 : decode (yB m_X12_isClear) 51 = .ok (.iconst 1, 1) := by decide +kernel
theorem d_X12_isClear_52 : decode (yB m_X12_isClear) 52 = .ok (.ireturn, 1) := by decide +kernel
def fn_X12_isClear_12 (D : zD) (k2 : Int32 → Option Int32) : Nat → Int32 → Int32 → Option Int32
  | 0, _, _ => none
  | n + 1, v1, v2 => (if v1 ≤ v2 then ((k2 (v1 + (1 : Int32)))) else (zck v1 12 <| zck v2 12 <| (fn_X12_firstCover (gI D 195 v1.toNatClampNeg) (gI D 195 v2.toNatClampNeg) D).bind fun x5 => (if x5 = (-1 : Int32) then (((fn_X12_isClear_12 D k2 n) v1 (v2 + (1 : Int32)))) else ((some (0 : Int32))))))
def fn_X12_isClear_2 (D : zD) : Nat → Int32 → Option Int32
  | 0, _ => none
  | n + 1, v1 => (if (gI D 102 16) ≤ v1 then ((some (1 : Int32))) else ((fn_X12_isClear_12 D (fn_X12_isClear_2 D n) zFU v1 (0 : Int32))))
def fn_X12_isClear (D : zD) : Option Int32 := (fn_X12_isClear_2 D zFU (0 : Int32))
theorem s_X12_isClear_12 {X : zX} {Sh : zSh} {d : Nat} (hst : (zl X).stackTraces = false) (h0 : zSh0 Sh) (hd : 2 ≤ d) (D : zD) (k2 : Int32 → Option Int32) (hk2 : ∀ (v1 : Int32) , Rn X m_X12_isClear (d + 1) 2 [(0, .ref 102), (1, .int v1)] [] (Sh, D) ((oP Sh D) (k2 v1))) : ∀ (n : Nat) (v1 : Int32) (v2 : Int32) , Rn X m_X12_isClear (d + 1) 12 [(0, .ref 102), (1, .int v1), (2, .int v2)] [] (Sh, D) ((oP Sh D) (fn_X12_isClear_12 D k2 n v1 v2)) := by
  intro n
  induction n with
  | zero => intro v1 v2; exact Rn_none rfl
  | succ n hk12 =>
    intro v1 v2
    rw [fn_X12_isClear_12]
    refine r_iload_n (pc := 12) 2 d_X12_isClear_12 rfl rfl ?_
    refine r_iload_n (pc := 13) 1 d_X12_isClear_13 rfl rfl ?_
    refine r_icmp_ge (f := (oP Sh D)) (pc := 14) 45 d_X12_isClear_14 (by decide) (fun c2 => ?_) (fun c2 => ?_)
    · refine r_iinc (pc := 45) ((v1 + (1 : Int32))) 1 (ls' := [(1, .int (v1 + (1 : Int32))), (0, .ref 102), (2, .int v2)]) d_X12_isClear_45 rfl rfl (Nat.le_of_ble_eq_true rfl) rfl ?_
      refine r_goto (pc := 48) 2 d_X12_isClear_48 (by decide) ?_
      refine r_pick [1, 0] (ls' := [(0, .ref 102), (1, .int (v1 + (1 : Int32)))]) rfl ?_
      exact hk2 (v1 + (1 : Int32)) 
    · refine r_aload_n (pc := 17) 0 d_X12_isClear_17 rfl rfl ?_
      refine r_aload_n (pc := 18) 0 d_X12_isClear_18 rfl rfl ?_
      refine r_getR (pc := 19) g_X12_78 (K_102 h0) rfl (R_102_43 h0) d_X12_isClear_19 ?_
      refine r_iload_n (pc := 22) 1 d_X12_isClear_22 rfl rfl ?_
      refine r_ck (f := (oP Sh D)) rfl (fun hc3 => ?_)
      refine q_iald (pc := 23) (j := v1.toNatClampNeg) (K_195 h0) hc3 rfl d_X12_isClear_23 ?_
      refine r_aload_n (pc := 24) 0 d_X12_isClear_24 rfl rfl ?_
      refine r_getR (pc := 25) g_X12_78 (K_102 h0) rfl (R_102_43 h0) d_X12_isClear_25 ?_
      refine r_iload_n (pc := 28) 2 d_X12_isClear_28 rfl rfl ?_
      refine r_ck (f := (oP Sh D)) rfl (fun hc4 => ?_)
      refine q_iald (pc := 29) (j := v2.toNatClampNeg) (K_195 h0) hc4 rfl d_X12_isClear_29 ?_
      refine q_cP (f := (oP Sh D)) (av := [.ref 102, .int (gI D 195 v1.toNatClampNeg), .int (gI D 195 v2.toNatClampNeg)]) (st := []) (z_runV ck_X12_firstCover rfl ml_X12_302 ci_X12_firstCover cv_X12_firstCover (K_102 h0) (ci := 12) rfl rfl (Nat.le_of_ble_eq_true rfl) d_X12_isClear_30) (s_X12_firstCover hst h0 (by omega)) kp_P (fun x5 _ => ?_)
      refine r_iconst (pc := 33) (-1 : Int32) d_X12_isClear_33 rfl ?_
      refine r_icmp_eq (f := (oP Sh D)) (pc := 34) 39 d_X12_isClear_34 (by decide) (fun c6 => ?_) (fun c6 => ?_)
      · refine r_iinc (pc := 39) ((v2 + (1 : Int32))) 2 (ls' := [(2, .int (v2 + (1 : Int32))), (0, .ref 102), (1, .int v1)]) d_X12_isClear_39 rfl rfl (Nat.le_of_ble_eq_true rfl) rfl ?_
        refine r_goto (pc := 42) 12 d_X12_isClear_42 (by decide) ?_
        refine r_pick [1, 2, 0] (ls' := [(0, .ref 102), (1, .int v1), (2, .int (v2 + (1 : Int32)))]) rfl ?_
        exact hk12 v1 (v2 + (1 : Int32)) 
      · refine r_iconst (pc := 37) (0 : Int32) d_X12_isClear_37 rfl ?_
        exact r_zret (pc := 38) rfl (by decide) d_X12_isClear_38
theorem s_X12_isClear_2 {X : zX} {Sh : zSh} {d : Nat} (hst : (zl X).stackTraces = false) (h0 : zSh0 Sh) (hd : 2 ≤ d) (D : zD) : ∀ (n : Nat) (v1 : Int32) , Rn X m_X12_isClear (d + 1) 2 [(0, .ref 102), (1, .int v1)] [] (Sh, D) ((oP Sh D) (fn_X12_isClear_2 D n v1)) := by
  intro n
  induction n with
  | zero => intro v1; exact Rn_none rfl
  | succ n hk2 =>
    intro v1
    rw [fn_X12_isClear_2]
    refine r_iload_n (pc := 2) 1 d_X12_isClear_2 rfl rfl ?_
    refine r_aload_n (pc := 3) 0 d_X12_isClear_3 rfl rfl ?_
    refine q_gI (pc := 4) g_X12_224 (K_102 h0) rfl d_X12_isClear_4 ?_
    refine r_icmp_ge (f := (oP Sh D)) (pc := 7) 51 d_X12_isClear_7 (by decide) (fun c1 => ?_) (fun c1 => ?_)
    · refine r_iconst (pc := 51) (1 : Int32) d_X12_isClear_51 rfl ?_
      exact r_zret (pc := 52) rfl (by decide) d_X12_isClear_52
    · refine r_iconst (pc := 10) (0 : Int32) d_X12_isClear_10 rfl ?_
      refine r_istore_n (pc := 11) (ls' := [(2, .int (0 : Int32)), (0, .ref 102), (1, .int v1)]) d_X12_isClear_11 rfl (Nat.le_of_ble_eq_true rfl) rfl ?_
      refine r_pick [1, 2, 0] (ls' := [(0, .ref 102), (1, .int v1), (2, .int (0 : Int32))]) rfl ?_
      exact s_X12_isClear_12 hst h0 hd D (fn_X12_isClear_2 D n) hk2 zFU  v1 (0 : Int32)
theorem s_X12_isClear {X : zX} {Sh : zSh} {d : Nat} (hst : (zl X).stackTraces = false) (h0 : zSh0 Sh) (hd : 3 ≤ d)  {D : zD} : Sd X m_X12_isClear d [.ref 102] (Sh, D) ((oP Sh D) (fn_X12_isClear D)) := by
  obtain ⟨d, rfl⟩ : ∃ e, d = e + 1 := ⟨d - 1, by omega⟩
  replace hd : 2 ≤ d := by omega
  refine z_body ck_X12_isClear rfl (Nat.le_of_ble_eq_true rfl) rfl hst ?_
  rw [fn_X12_isClear]
  show Rn X m_X12_isClear (d + 1) 0 [(0, .ref 102)] [] (Sh, D) _
  refine r_iconst (pc := 0) (0 : Int32) d_X12_isClear_0 rfl ?_
  refine r_istore_n (pc := 1) (ls' := [(1, .int (0 : Int32)), (0, .ref 102)]) d_X12_isClear_1 rfl (Nat.le_of_ble_eq_true rfl) rfl ?_
  refine r_pick [1, 0] (ls' := [(0, .ref 102), (1, .int (0 : Int32))]) rfl ?_
  exact s_X12_isClear_2 hst h0 hd D zFU  (0 : Int32)
/-! CoveredSignsModel.findChanges -/
theorem d_X12_findChanges_0 : decode (yB m_X12_findChanges) 0 = .ok (.aload_n 0, 1) := by decide +kernel
theorem d_X12_findChanges_1 : decode (yB m_X12_findChanges) 1 = .ok (.iconst (-1), 1) := by decide +kernel
theorem d_X12_findChanges_2 : decode (yB m_X12_findChanges) 2 = .ok (.putfield 341, 3) := by decide +kernel
theorem d_X12_findChanges_5 : decode (yB m_X12_findChanges) 5 = .ok (.aload_n 0, 1) := by decide +kernel
theorem d_X12_findChanges_6 : decode (yB m_X12_findChanges) 6 = .ok (.iconst (-1), 1) := by decide +kernel
theorem d_X12_findChanges_7 : decode (yB m_X12_findChanges) 7 = .ok (.putfield 344, 3) := by decide +kernel
theorem d_X12_findChanges_10 : decode (yB m_X12_findChanges) 10 = .ok (.aload_n 0, 1) := by decide +kernel
theorem d_X12_findChanges_11 : decode (yB m_X12_findChanges) 11 = .ok (.invokevirtual 311, 3) := by decide +kernel
theorem d_X12_findChanges_14 : decode (yB m_X12_findChanges) 14 = .ok (.aload_n 0, 1) := by decide +kernel
theorem d_X12_findChanges_15 : decode (yB m_X12_findChanges) 15 = .ok (.invokevirtual 314, 3) := by decide +kernel
theorem d_X12_findChanges_18 : decode (yB m_X12_findChanges) 18 = .ok (.ifCond .ne 5, 3) := by decide +kernel
theorem d_X12_findChanges_21 : decode (yB m_X12_findChanges) 21 = .ok (.iconst 0, 1) := by decide +kernel
theorem d_X12_findChanges_22 : decode (yB m_X12_findChanges) 22 = .ok (.ireturn, 1) := by decide +kernel
theorem d_X12_findChanges_23 : decode (yB m_X12_findChanges) 23 = .ok (.aload_n 0, 1) := by decide +kernel
theorem d_X12_findChanges_24 : decode (yB m_X12_findChanges) 24 = .ok (.getfield 224, 3) := by decide +kernel
theorem d_X12_findChanges_27 : decode (yB m_X12_findChanges) 27 = .ok (.aload_n 0, 1) := by decide +kernel
theorem d_X12_findChanges_28 : decode (yB m_X12_findChanges) 28 = .ok (.invokevirtual 242, 3) := by decide +kernel
theorem d_X12_findChanges_31 : decode (yB m_X12_findChanges) 31 = .ok (.imul, 1) := by decide +kernel
theorem d_X12_findChanges_32 : decode (yB m_X12_findChanges) 32 = .ok (.istore_n 1, 1) := by decide +kernel
theorem d_X12_findChanges_33 : decode (yB m_X12_findChanges) 33 = .ok (.iconst 0, 1) := by decide +kernel
theorem d_X12_findChanges_34 : decode (yB m_X12_findChanges) 34 = .ok (.istore_n 2, 1) := by decide +kernel
theorem d_X12_findChanges_35 : decode (yB m_X12_findChanges) 35 = .ok (.iload_n 2, 1) := by decide +kernel
theorem d_X12_findChanges_36 : decode (yB m_X12_findChanges) 36 = .ok (.iload_n 1, 1) := by decide +kernel
theorem d_X12_findChanges_37 : decode (yB m_X12_findChanges) 37 = .ok (.if_icmp .ge 60, 3) := by decide +kernel
theorem d_X12_findChanges_40 : decode (yB m_X12_findChanges) 40 = .ok (.aload_n 0, 1) := by decide +kernel
theorem d_X12_findChanges_41 : decode (yB m_X12_findChanges) 41 = .ok (.iload_n 2, 1) := by decide +kernel
theorem d_X12_findChanges_42 : decode (yB m_X12_findChanges) 42 = .ok (.aload_n 0, 1) := by decide +kernel
theorem d_X12_findChanges_43 : decode (yB m_X12_findChanges) 43 = .ok (.invokevirtual 242, 3) := by decide +kernel
theorem d_X12_findChanges_46 : decode (yB m_X12_findChanges) 46 = .ok (.idiv, 1) := by decide +kernel
theorem d_X12_findChanges_47 : decode (yB m_X12_findChanges) 47 = .ok (.iload_n 2, 1) := by decide +kernel
theorem d_X12_findChanges_48 : decode (yB m_X12_findChanges) 48 = .ok (.aload_n 0, 1) := by decide +kernel
theorem d_X12_findChanges_49 : decode (yB m_X12_findChanges) 49 = .ok (.invokevirtual 242, 3) := by decide +kernel
theorem d_X12_findChanges_52 : decode (yB m_X12_findChanges) 52 = .ok (.idiv, 1) := by decide +kernel
theorem d_X12_findChanges_53 : decode (yB m_X12_findChanges) 53 = .ok (.invokevirtual 347, 3) := by decide +kernel
theorem d_X12_findChanges_56 : decode (yB m_X12_findChanges) 56 = .ok (.ifCond .ne 6, 3) := by decide +kernel
theorem d_X12_findChanges_59 : decode (yB m_X12_findChanges) 59 = .ok (.goto 32, 3) := by decide +kernel
theorem d_X12_findChanges_62 : decode (yB m_X12_findChanges) 62 = .ok (.aload_n 0, 1) := by decide +kernel
theorem d_X12_findChanges_63 : decode (yB m_X12_findChanges) 63 = .ok (.iload_n 2, 1) := by decide +kernel
theorem d_X12_findChanges_64 : decode (yB m_X12_findChanges) 64 = .ok (.invokevirtual 350, 3) := by decide +kernel
theorem d_X12_findChanges_67 : decode (yB m_X12_findChanges) 67 = .ok (.aload_n 0, 1) := by decide +kernel
theorem d_X12_findChanges_68 : decode (yB m_X12_findChanges) 68 = .ok (.invokevirtual 353, 3) := by decide +kernel
theorem d_X12_findChanges_71 : decode (yB m_X12_findChanges) 71 = .ok (.istore_n 3, 1) := by decide +kernel
theorem d_X12_findChanges_72 : decode (yB m_X12_findChanges) 72 = .ok (.aload_n 0, 1) := by decide +kernel
theorem d_X12_findChanges_73 : decode (yB m_X12_findChanges) 73 = .ok (.iload_n 2, 1) := by decide +kernel
theorem d_X12_findChanges_74 : decode (yB m_X12_findChanges) 74 = .ok (.invokevirtual 350, 3) := by decide +kernel
theorem d_X12_findChanges_77 : decode (yB m_X12_findChanges) 77 = .ok (.iload_n 3, 1) := by decide +kernel
theorem d_X12_findChanges_78 : decode (yB m_X12_findChanges) 78 = .ok (.ifCond .ne 6, 3) := by decide +kernel
theorem d_X12_findChanges_81 : decode (yB m_X12_findChanges) 81 = .ok (.goto 10, 3) := by decide +kernel
theorem d_X12_findChanges_84 : decode (yB m_X12_findChanges) 84 = .ok (.aload_n 0, 1) := by decide +kernel
theorem d_X12_findChanges_85 : decode (yB m_X12_findChanges) 85 = .ok (.iload_n 2, 1) := by decide +kernel
theorem d_X12_findChanges_86 : decode (yB m_X12_findChanges) 86 = .ok (.putfield 341, 3) := by decide +kernel
theorem d_X12_findChanges_89 : decode (yB m_X12_findChanges) 89 = .ok (.iconst 1, 1) := by decide +kernel
theorem d_X12_findChanges_90 : decode (yB m_X12_findChanges) 90 = .ok (.ireturn, 1) := by decide +kernel
theorem d_X12_findChanges_91 : decode (yB m_X12_findChanges) 91 = .ok (.iinc 2 1, 3) := by decide +kernel
theorem d_X12_findChanges_94 : decode (yB m_X12_findChanges) 94 = .ok (.goto (-59), 3) := by decide +kernel
theorem d_X12_findChanges_97 : decode (yB m_X12_findChanges) 97 = .ok (.aload_n 0, 1) := by decide +kernel
theorem d_X12_findChanges_98 : decode (yB m_X12_findChanges) 98 = .ok (.invokevirtual 314, 3) := by decide +kernel
theorem d_X12_findChanges_101 : decode (yB m_X12_findChanges) 101 = .ok (.pop, 1) := by decide +kernel
theorem d_X12_findChanges_102 : decode (yB m_X12_findChanges) 102 = .ok (.iconst 0, 1) := by decide +kernel
theorem d_X12_findChanges_103 : decode (yB m_X12_findChanges) 103 = .ok (.istore_n 2, 1) := by decide +kernel
theorem d_X12_findChanges_104 : decode (yB m_X12_findChanges) 104 = .ok (.iload_n 2, 1) := by decide +kernel
theorem d_X12_findChanges_105 : decode (yB m_X12_findChanges) 105 = .ok (.iload_n 1, 1) := by decide +kernel
theorem d_X12_findChanges_106 : decode (yB m_X12_findChanges) 106 = .ok (.if_icmp .ge 92, 3) := by decide +kernel
theorem d_X12_findChanges_109 : decode (yB m_X12_findChanges) 109 = .ok (.iload_n 2, 1) := by decide +kernel
theorem d_X12_findChanges_110 : decode (yB m_X12_findChanges) 110 = .ok (.iconst 1, 1) := by decide +kernel
theorem d_X12_findChanges_111 : decode (yB m_X12_findChanges) 111 = .ok (.iadd, 1) := by decide +kernel
theorem d_X12_findChanges_112 : decode (yB m_X12_findChanges) 112 = .ok (.istore_n 3, 1) := by decide +kernel
theorem d_X12_findChanges_113 : decode (yB m_X12_findChanges) 113 = .ok (.iload_n 3, 1) := by decide +kernel
theorem d_X12_findChanges_114 : decode (yB m_X12_findChanges) 114 = .ok (.iload_n 1, 1) := by decide +kernel
theorem d_X12_findChanges_115 : decode (yB m_X12_findChanges) 115 = .ok (.if_icmp .ge 77, 3) := by decide +kernel
theorem d_X12_findChanges_118 : decode (yB m_X12_findChanges) 118 = .ok (.aload_n 0, 1) := by decide +kernel
theorem d_X12_findChanges_119 : decode (yB m_X12_findChanges) 119 = .ok (.iload_n 2, 1) := by decide +kernel
theorem d_X12_findChanges_120 : decode (yB m_X12_findChanges) 120 = .ok (.aload_n 0, 1) := by decide +kernel
theorem d_X12_findChanges_121 : decode (yB m_X12_findChanges) 121 = .ok (.invokevirtual 242, 3) := by decide +kernel
theorem d_X12_findChanges_124 : decode (yB m_X12_findChanges) 124 = .ok (.idiv, 1) := by decide +kernel
theorem d_X12_findChanges_125 : decode (yB m_X12_findChanges) 125 = .ok (.iload_n 3, 1) := by decide +kernel
theorem d_X12_findChanges_126 : decode (yB m_X12_findChanges) 126 = .ok (.aload_n 0, 1) := by decide +kernel
theorem d_X12_findChanges_127 : decode (yB m_X12_findChanges) 127 = .ok (.invokevirtual 242, 3) := by decide +kernel
theorem d_X12_findChanges_130 : decode (yB m_X12_findChanges) 130 = .ok (.idiv, 1) := by decide +kernel
theorem d_X12_findChanges_131 : decode (yB m_X12_findChanges) 131 = .ok (.invokevirtual 347, 3) := by decide +kernel
theorem d_X12_findChanges_134 : decode (yB m_X12_findChanges) 134 = .ok (.ifCond .ne 6, 3) := by decide +kernel
theorem d_X12_findChanges_137 : decode (yB m_X12_findChanges) 137 = .ok (.goto 49, 3) := by decide +kernel
theorem d_X12_findChanges_140 : decode (yB m_X12_findChanges) 140 = .ok (.aload_n 0, 1) := by decide +kernel
theorem d_X12_findChanges_141 : decode (yB m_X12_findChanges) 141 = .ok (.iload_n 2, 1) := by decide +kernel
theorem d_X12_findChanges_142 : decode (yB m_X12_findChanges) 142 = .ok (.invokevirtual 350, 3) := by decide +kernel
theorem d_X12_findChanges_145 : decode (yB m_X12_findChanges) 145 = .ok (.aload_n 0, 1) := by decide +kernel
theorem d_X12_findChanges_146 : decode (yB m_X12_findChanges) 146 = .ok (.iload_n 3, 1) := by decide +kernel
theorem d_X12_findChanges_147 : decode (yB m_X12_findChanges) 147 = .ok (.invokevirtual 350, 3) := by decide +kernel
theorem d_X12_findChanges_150 : decode (yB m_X12_findChanges) 150 = .ok (.aload_n 0, 1) := by decide +kernel
theorem d_X12_findChanges_151 : decode (yB m_X12_findChanges) 151 = .ok (.invokevirtual 353, 3) := by decide +kernel
theorem d_X12_findChanges_154 : decode (yB m_X12_findChanges) 154 = .ok (.istore 4, 2) := by decide +kernel
theorem d_X12_findChanges_156 : decode (yB m_X12_findChanges) 156 = .ok (.aload_n 0, 1) := by decide +kernel
theorem d_X12_findChanges_157 : decode (yB m_X12_findChanges) 157 = .ok (.iload_n 3, 1) := by decide +kernel
theorem d_X12_findChanges_158 : decode (yB m_X12_findChanges) 158 = .ok (.invokevirtual 350, 3) := by decide +kernel
theorem d_X12_findChanges_161 : decode (yB m_X12_findChanges) 161 = .ok (.aload_n 0, 1) := by decide +kernel
theorem d_X12_findChanges_162 : decode (yB m_X12_findChanges) 162 = .ok (.iload_n 2, 1) := by decide +kernel
theorem d_X12_findChanges_163 : decode (yB m_X12_findChanges) 163 = .ok (.invokevirtual 350, 3) := by decide +kernel
theorem d_X12_findChanges_166 : decode (yB m_X12_findChanges) 166 = .ok (.iload 4, 2) := by decide +kernel
theorem d_X12_findChanges_168 : decode (yB m_X12_findChanges) 168 = .ok (.ifCond .ne 6, 3) := by decide +kernel
theorem d_X12_findChanges_171 : decode (yB m_X12_findChanges) 171 = .ok (.goto 15, 3) := by decide +kernel
theorem d_X12_findChanges_174 : decode (yB m_X12_findChanges) 174 = .ok (.aload_n 0, 1) := by decide +kernel
theorem d_X12_findChanges_175 : decode (yB m_X12_findChanges) 175 = .ok (.iload_n 2, 1) := by decide +kernel
theorem d_X12_findChanges_176 : decode (yB m_X12_findChanges) 176 = .ok (.putfield 341, 3) := by decide +kernel
theorem d_X12_findChanges_179 : decode (yB m_X12_findChanges) 179 = .ok (.aload_n 0, 1) := by decide +kernel
theorem d_X12_findChanges_180 : decode (yB m_X12_findChanges) 180 = .ok (.iload_n 3, 1) := by decide +kernel
theorem d_X12_findChanges_181 : decode (yB m_X12_findChanges) 181 = .ok (.putfield 344, 3) := by decide +kernel
theorem d_X12_findChanges_184 : decode (yB m_X12_findChanges) 184 = .ok (.iconst 2, 1) := by decide +kernel
theorem d_X12_findChanges_185 : decode (yB m_X12_findChanges) 185 = .ok (.ireturn, 1) := by decide +kernel
theorem d_X12_findChanges_186 : decode (yB m_X12_findChanges) 186 = .ok (.iinc 3 1, 3) := by decide +kernel
theorem d_X12_findChanges_189 : decode (yB m_X12_findChanges) 189 = .ok (.goto (-76), 3) := by decide +kernel
theorem d_X12_findChanges_192 : decode (yB m_X12_findChanges) 192 = .ok (.iinc 2 1, 3) := by decide +kernel
theorem d_X12_findChanges_195 : decode (yB m_X12_findChanges) 195 = .ok (.goto (-91), 3) := by decide +kernel
theorem d_X12_findChanges_198 : decode (yB m_X12_findChanges) 198 = .ok (.iconst (-1), 1) := by decide +kernel
theorem d_X12_findChanges_199 : decode (yB m_X12_findChanges) 199 = .ok (.ireturn, 1) := by decide +kernel
def fn_X12_findChanges_174  (v2 : Int32) (v3 : Int32) (D : zD) : Option (Int32 × zD) := zlet (sI D 102 48 v2) fun D23 => zlet (sI D23 102 49 v3) fun D24 => (some ((2 : Int32), D24))
def fn_X12_findChanges_113 (k104 : Int32 → Int32 → zD → Option (Int32 × zD)) : Nat → Int32 → Int32 → Int32 → zD → Option (Int32 × zD)
  | 0, _, _, _, _ => none
  | n + 1, v1, v2, v3, D => (if v1 ≤ v3 then ((k104 v1 (v2 + (1 : Int32)) D)) else ((fn_X12_cells D).bind fun x13 => zdv x13 <| (fn_X12_cells D).bind fun x14 => zdv x14 <| (fn_X12_couldBe (v2 / x13) (v3 / x14) D).bind fun x15 => (if x15 = 0 then (((fn_X12_findChanges_113 k104 n) v1 v2 (v3 + (1 : Int32)) D)) else ((fn_X12_flips v2 D).bind fun D17 => (fn_X12_flips v3 D17).bind fun D18 => (fn_X12_isClear D18).bind fun x19 => (fn_X12_flips v3 D18).bind fun D20 => (fn_X12_flips v2 D20).bind fun D21 => (if x19 = 0 then (((fn_X12_findChanges_113 k104 n) v1 v2 (v3 + (1 : Int32)) D21)) else ((fn_X12_findChanges_174 v2 v3 D21)))))))
def fn_X12_findChanges_104  : Nat → Int32 → Int32 → zD → Option (Int32 × zD)
  | 0, _, _, _ => none
  | n + 1, v1, v2, D => (if v1 ≤ v2 then ((some ((-1 : Int32), D))) else (zlet (v2 + (1 : Int32)) fun x11 => (fn_X12_findChanges_113 (fn_X12_findChanges_104  n) zFU v1 v2 x11 D)))
def fn_X12_findChanges_35  : Nat → Int32 → Int32 → zD → Option (Int32 × zD)
  | 0, _, _, _ => none
  | n + 1, v1, v2, D => (if v1 ≤ v2 then ((fn_X12_layPairs D).bind fun q9 => (fn_X12_findChanges_104 zFU v1 (0 : Int32) q9.2)) else ((fn_X12_cells D).bind fun x25 => zdv x25 <| (fn_X12_cells D).bind fun x26 => zdv x26 <| (fn_X12_couldBe (v2 / x25) (v2 / x26) D).bind fun x27 => (if x27 = 0 then (((fn_X12_findChanges_35  n) v1 (v2 + (1 : Int32)) D)) else ((fn_X12_flips v2 D).bind fun D29 => (fn_X12_isClear D29).bind fun x30 => (fn_X12_flips v2 D29).bind fun D31 => (if x30 = 0 then (((fn_X12_findChanges_35  n) v1 (v2 + (1 : Int32)) D31)) else (zlet (sI D31 102 48 v2) fun D33 => (some ((1 : Int32), D33))))))))
def fn_X12_findChanges (D : zD) : Option (Int32 × zD) := zlet (sI D 102 48 (-1 : Int32)) fun D1 => zlet (sI D1 102 49 (-1 : Int32)) fun D2 => (fn_X12_layNow D2).bind fun D3 => (fn_X12_layPairs D3).bind fun q4 => (if q4.1 = 0 then ((some ((0 : Int32), q4.2))) else ((fn_X12_cells q4.2).bind fun x6 => zlet ((gI q4.2 102 16) * x6) fun x7 => (fn_X12_findChanges_35 zFU x7 (0 : Int32) q4.2)))
theorem s_X12_findChanges_174 {X : zX} {Sh : zSh} {d : Nat} (hst : (zl X).stackTraces = false) (h0 : zSh0 Sh) (hd : 4 ≤ d)  (v2 : Int32) (v3 : Int32) (D : zD)  : Rn X m_X12_findChanges (d + 1) 174 [(0, .ref 102), (2, .int v2), (3, .int v3)] [] (Sh, D) ((oI Sh) (fn_X12_findChanges_174  v2 v3 D)) := by
  rw [fn_X12_findChanges_174]
  refine r_aload_n (pc := 174) 0 d_X12_findChanges_174 rfl rfl ?_
  refine r_iload_n (pc := 175) 1 d_X12_findChanges_175 rfl rfl ?_
  refine r_putI (pc := 176) p_X12_341 (K_102 h0) rfl (Or.inl rfl) d_X12_findChanges_176 ?_
  refine r_letD (f := (oI Sh)) (fun D23 => ?_)
  refine r_aload_n (pc := 179) 0 d_X12_findChanges_179 rfl rfl ?_
  refine r_iload_n (pc := 180) 2 d_X12_findChanges_180 rfl rfl ?_
  refine r_putI (pc := 181) p_X12_344 (K_102 h0) rfl (Or.inl rfl) d_X12_findChanges_181 ?_
  refine r_letD (f := (oI Sh)) (fun D24 => ?_)
  refine r_iconst (pc := 184) (2 : Int32) d_X12_findChanges_184 rfl ?_
  exact r_iret (pc := 185) rfl d_X12_findChanges_185
theorem s_X12_findChanges_113 {X : zX} {Sh : zSh} {d : Nat} (hst : (zl X).stackTraces = false) (h0 : zSh0 Sh) (hd : 4 ≤ d) (k104 : Int32 → Int32 → zD → Option (Int32 × zD)) (hk104 : ∀ (v1 : Int32) (v2 : Int32) (D : zD) , Rn X m_X12_findChanges (d + 1) 104 [(0, .ref 102), (1, .int v1), (2, .int v2)] [] (Sh, D) ((oI Sh) (k104 v1 v2 D))) : ∀ (n : Nat) (v1 : Int32) (v2 : Int32) (v3 : Int32) (D : zD) , Rn X m_X12_findChanges (d + 1) 113 [(0, .ref 102), (1, .int v1), (2, .int v2), (3, .int v3)] [] (Sh, D) ((oI Sh) (fn_X12_findChanges_113 k104 n v1 v2 v3 D)) := by
  intro n
  induction n with
  | zero => intro v1 v2 v3 D; exact Rn_none rfl
  | succ n hk113 =>
    intro v1 v2 v3 D
    rw [fn_X12_findChanges_113]
    refine r_iload_n (pc := 113) 3 d_X12_findChanges_113 rfl rfl ?_
    refine r_iload_n (pc := 114) 1 d_X12_findChanges_114 rfl rfl ?_
    refine r_icmp_ge (f := (oI Sh)) (pc := 115) 192 d_X12_findChanges_115 (by decide) (fun c12 => ?_) (fun c12 => ?_)
    · refine r_iinc (pc := 192) ((v2 + (1 : Int32))) 2 (ls' := [(2, .int (v2 + (1 : Int32))), (0, .ref 102), (1, .int v1), (3, .int v3)]) d_X12_findChanges_192 rfl rfl (Nat.le_of_ble_eq_true rfl) rfl ?_
      refine r_goto (pc := 195) 104 d_X12_findChanges_195 (by decide) ?_
      refine r_pick [1, 2, 0] (ls' := [(0, .ref 102), (1, .int v1), (2, .int (v2 + (1 : Int32)))]) rfl ?_
      exact hk104 v1 (v2 + (1 : Int32)) D 
    · refine r_aload_n (pc := 118) 0 d_X12_findChanges_118 rfl rfl ?_
      refine r_iload_n (pc := 119) 2 d_X12_findChanges_119 rfl rfl ?_
      refine r_aload_n (pc := 120) 0 d_X12_findChanges_120 rfl rfl ?_
      refine q_cP (f := (oI Sh)) (av := [.ref 102]) (st := [.int v2, .ref 102]) (z_runV ck_X12_cells rfl ml_X12_242 ci_X12_cells cv_X12_cells (K_102 h0) (ci := 12) rfl rfl (Nat.le_of_ble_eq_true rfl) d_X12_findChanges_121) (s_X12_cells hst h0 (by omega)) kp_I (fun x13 _ => ?_)
      refine r_idiv (f := (oI Sh)) (pc := 124) d_X12_findChanges_124 rfl ?_
      refine r_iload_n (pc := 125) 3 d_X12_findChanges_125 rfl rfl ?_
      refine r_aload_n (pc := 126) 0 d_X12_findChanges_126 rfl rfl ?_
      refine q_cP (f := (oI Sh)) (av := [.ref 102]) (st := [.int v3, .int (v2 / x13), .ref 102]) (z_runV ck_X12_cells rfl ml_X12_242 ci_X12_cells cv_X12_cells (K_102 h0) (ci := 12) rfl rfl (Nat.le_of_ble_eq_true rfl) d_X12_findChanges_127) (s_X12_cells hst h0 (by omega)) kp_I (fun x14 _ => ?_)
      refine r_idiv (f := (oI Sh)) (pc := 130) d_X12_findChanges_130 rfl ?_
      refine q_cP (f := (oI Sh)) (av := [.ref 102, .int (v2 / x13), .int (v3 / x14)]) (st := []) (z_runV ck_X12_couldBe rfl ml_X12_347 ci_X12_couldBe cv_X12_couldBe (K_102 h0) (ci := 12) rfl rfl (Nat.le_of_ble_eq_true rfl) d_X12_findChanges_131) (s_X12_couldBe hst h0 (by omega)) kp_I (fun x15 _ => ?_)
      refine r_if_ne (f := (oI Sh)) (pc := 134) 140 d_X12_findChanges_134 (by decide) (fun c16 => ?_) (fun c16 => ?_)
      · refine r_aload_n (pc := 140) 0 d_X12_findChanges_140 rfl rfl ?_
        refine r_iload_n (pc := 141) 2 d_X12_findChanges_141 rfl rfl ?_
        refine q_cV (f := (oI Sh)) (av := [.ref 102, .int v2]) (st := []) (z_runV ck_X12_flips rfl ml_X12_350 ci_X12_flips cv_X12_flips (K_102 h0) (ci := 12) rfl rfl (Nat.le_of_ble_eq_true rfl) d_X12_findChanges_142) (s_X12_flips hst h0 (by omega)) kp_I (fun D17 _ => ?_)
        refine r_aload_n (pc := 145) 0 d_X12_findChanges_145 rfl rfl ?_
        refine r_iload_n (pc := 146) 3 d_X12_findChanges_146 rfl rfl ?_
        refine q_cV (f := (oI Sh)) (av := [.ref 102, .int v3]) (st := []) (z_runV ck_X12_flips rfl ml_X12_350 ci_X12_flips cv_X12_flips (K_102 h0) (ci := 12) rfl rfl (Nat.le_of_ble_eq_true rfl) d_X12_findChanges_147) (s_X12_flips hst h0 (by omega)) kp_I (fun D18 _ => ?_)
        refine r_aload_n (pc := 150) 0 d_X12_findChanges_150 rfl rfl ?_
        refine q_cP (f := (oI Sh)) (av := [.ref 102]) (st := []) (z_runV ck_X12_isClear rfl ml_X12_353 ci_X12_isClear cv_X12_isClear (K_102 h0) (ci := 12) rfl rfl (Nat.le_of_ble_eq_true rfl) d_X12_findChanges_151) (s_X12_isClear hst h0 (by omega)) kp_I (fun x19 _ => ?_)
        refine r_istore (pc := 154) (ls' := [(4, .int x19), (0, .ref 102), (1, .int v1), (2, .int v2), (3, .int v3)]) d_X12_findChanges_154 (Nat.le_of_ble_eq_true rfl) rfl ?_
        refine r_aload_n (pc := 156) 1 d_X12_findChanges_156 rfl rfl ?_
        refine r_iload_n (pc := 157) 4 d_X12_findChanges_157 rfl rfl ?_
        refine q_cV (f := (oI Sh)) (av := [.ref 102, .int v3]) (st := []) (z_runV ck_X12_flips rfl ml_X12_350 ci_X12_flips cv_X12_flips (K_102 h0) (ci := 12) rfl rfl (Nat.le_of_ble_eq_true rfl) d_X12_findChanges_158) (s_X12_flips hst h0 (by omega)) kp_I (fun D20 _ => ?_)
        refine r_aload_n (pc := 161) 1 d_X12_findChanges_161 rfl rfl ?_
        refine r_iload_n (pc := 162) 3 d_X12_findChanges_162 rfl rfl ?_
        refine q_cV (f := (oI Sh)) (av := [.ref 102, .int v2]) (st := []) (z_runV ck_X12_flips rfl ml_X12_350 ci_X12_flips cv_X12_flips (K_102 h0) (ci := 12) rfl rfl (Nat.le_of_ble_eq_true rfl) d_X12_findChanges_163) (s_X12_flips hst h0 (by omega)) kp_I (fun D21 _ => ?_)
        refine r_iload (pc := 166) 0 d_X12_findChanges_166 rfl ?_
        refine r_if_ne (f := (oI Sh)) (pc := 168) 174 d_X12_findChanges_168 (by decide) (fun c22 => ?_) (fun c22 => ?_)
        · refine r_pick [1, 3, 4] (ls' := [(0, .ref 102), (2, .int v2), (3, .int v3)]) rfl ?_
          exact s_X12_findChanges_174 hst h0 hd v2 v3 D21
        · refine r_goto (pc := 171) 186 d_X12_findChanges_171 (by decide) ?_
          refine r_iinc (pc := 186) ((v3 + (1 : Int32))) 4 (ls' := [(3, .int (v3 + (1 : Int32))), (4, .int x19), (0, .ref 102), (1, .int v1), (2, .int v2)]) d_X12_findChanges_186 rfl rfl (Nat.le_of_ble_eq_true rfl) rfl ?_
          refine r_goto (pc := 189) 113 d_X12_findChanges_189 (by decide) ?_
          refine r_pick [2, 3, 4, 0] (ls' := [(0, .ref 102), (1, .int v1), (2, .int v2), (3, .int (v3 + (1 : Int32)))]) rfl ?_
          exact hk113 v1 v2 (v3 + (1 : Int32)) D21 
      · refine r_goto (pc := 137) 186 d_X12_findChanges_137 (by decide) ?_
        refine r_iinc (pc := 186) ((v3 + (1 : Int32))) 3 (ls' := [(3, .int (v3 + (1 : Int32))), (0, .ref 102), (1, .int v1), (2, .int v2)]) d_X12_findChanges_186 rfl rfl (Nat.le_of_ble_eq_true rfl) rfl ?_
        refine r_goto (pc := 189) 113 d_X12_findChanges_189 (by decide) ?_
        refine r_pick [1, 2, 3, 0] (ls' := [(0, .ref 102), (1, .int v1), (2, .int v2), (3, .int (v3 + (1 : Int32)))]) rfl ?_
        exact hk113 v1 v2 (v3 + (1 : Int32)) D 
theorem s_X12_findChanges_104 {X : zX} {Sh : zSh} {d : Nat} (hst : (zl X).stackTraces = false) (h0 : zSh0 Sh) (hd : 4 ≤ d)  : ∀ (n : Nat) (v1 : Int32) (v2 : Int32) (D : zD) , Rn X m_X12_findChanges (d + 1) 104 [(0, .ref 102), (1, .int v1), (2, .int v2)] [] (Sh, D) ((oI Sh) (fn_X12_findChanges_104  n v1 v2 D)) := by
  intro n
  induction n with
  | zero => intro v1 v2 D; exact Rn_none rfl
  | succ n hk104 =>
    intro v1 v2 D
    rw [fn_X12_findChanges_104]
    refine r_iload_n (pc := 104) 2 d_X12_findChanges_104 rfl rfl ?_
    refine r_iload_n (pc := 105) 1 d_X12_findChanges_105 rfl rfl ?_
    refine r_icmp_ge (f := (oI Sh)) (pc := 106) 198 d_X12_findChanges_106 (by decide) (fun c10 => ?_) (fun c10 => ?_)
    · refine r_iconst (pc := 198) (-1 : Int32) d_X12_findChanges_198 rfl ?_
      exact r_iret (pc := 199) rfl d_X12_findChanges_199
    · refine r_iload_n (pc := 109) 2 d_X12_findChanges_109 rfl rfl ?_
      refine r_iconst (pc := 110) (1 : Int32) d_X12_findChanges_110 rfl ?_
      refine r_iadd (pc := 111) d_X12_findChanges_111 ?_
      refine r_leti (f := (oI Sh)) (fun x11 => ?_)
      refine r_istore_n (pc := 112) (ls' := [(3, .int x11), (0, .ref 102), (1, .int v1), (2, .int v2)]) d_X12_findChanges_112 rfl (Nat.le_of_ble_eq_true rfl) rfl ?_
      refine r_pick [1, 2, 3, 0] (ls' := [(0, .ref 102), (1, .int v1), (2, .int v2), (3, .int x11)]) rfl ?_
      exact s_X12_findChanges_113 hst h0 hd (fn_X12_findChanges_104  n) hk104 zFU  v1 v2 x11 D
theorem s_X12_findChanges_35 {X : zX} {Sh : zSh} {d : Nat} (hst : (zl X).stackTraces = false) (h0 : zSh0 Sh) (hd : 4 ≤ d)  : ∀ (n : Nat) (v1 : Int32) (v2 : Int32) (D : zD) , Rn X m_X12_findChanges (d + 1) 35 [(0, .ref 102), (1, .int v1), (2, .int v2)] [] (Sh, D) ((oI Sh) (fn_X12_findChanges_35  n v1 v2 D)) := by
  intro n
  induction n with
  | zero => intro v1 v2 D; exact Rn_none rfl
  | succ n hk35 =>
    intro v1 v2 D
    rw [fn_X12_findChanges_35]
    refine r_iload_n (pc := 35) 2 d_X12_findChanges_35 rfl rfl ?_
    refine r_iload_n (pc := 36) 1 d_X12_findChanges_36 rfl rfl ?_
    refine r_icmp_ge (f := (oI Sh)) (pc := 37) 97 d_X12_findChanges_37 (by decide) (fun c8 => ?_) (fun c8 => ?_)
    · refine r_aload_n (pc := 97) 0 d_X12_findChanges_97 rfl rfl ?_
      refine q_cI (f := (oI Sh)) (av := [.ref 102]) (st := []) (z_runV ck_X12_layPairs rfl ml_X12_314 ci_X12_layPairs cv_X12_layPairs (K_102 h0) (ci := 12) rfl rfl (Nat.le_of_ble_eq_true rfl) d_X12_findChanges_98) (s_X12_layPairs hst h0 (by omega)) kp_I (fun q9 _ => ?_)
      refine r_pop (pc := 101) d_X12_findChanges_101 rfl ?_
      refine r_iconst (pc := 102) (0 : Int32) d_X12_findChanges_102 rfl ?_
      refine r_istore_n (pc := 103) (ls' := [(2, .int (0 : Int32)), (0, .ref 102), (1, .int v1)]) d_X12_findChanges_103 rfl (Nat.le_of_ble_eq_true rfl) rfl ?_
      refine r_pick [1, 2, 0] (ls' := [(0, .ref 102), (1, .int v1), (2, .int (0 : Int32))]) rfl ?_
      exact s_X12_findChanges_104 hst h0 hd zFU  v1 (0 : Int32) q9.2
    · refine r_aload_n (pc := 40) 0 d_X12_findChanges_40 rfl rfl ?_
      refine r_iload_n (pc := 41) 2 d_X12_findChanges_41 rfl rfl ?_
      refine r_aload_n (pc := 42) 0 d_X12_findChanges_42 rfl rfl ?_
      refine q_cP (f := (oI Sh)) (av := [.ref 102]) (st := [.int v2, .ref 102]) (z_runV ck_X12_cells rfl ml_X12_242 ci_X12_cells cv_X12_cells (K_102 h0) (ci := 12) rfl rfl (Nat.le_of_ble_eq_true rfl) d_X12_findChanges_43) (s_X12_cells hst h0 (by omega)) kp_I (fun x25 _ => ?_)
      refine r_idiv (f := (oI Sh)) (pc := 46) d_X12_findChanges_46 rfl ?_
      refine r_iload_n (pc := 47) 2 d_X12_findChanges_47 rfl rfl ?_
      refine r_aload_n (pc := 48) 0 d_X12_findChanges_48 rfl rfl ?_
      refine q_cP (f := (oI Sh)) (av := [.ref 102]) (st := [.int v2, .int (v2 / x25), .ref 102]) (z_runV ck_X12_cells rfl ml_X12_242 ci_X12_cells cv_X12_cells (K_102 h0) (ci := 12) rfl rfl (Nat.le_of_ble_eq_true rfl) d_X12_findChanges_49) (s_X12_cells hst h0 (by omega)) kp_I (fun x26 _ => ?_)
      refine r_idiv (f := (oI Sh)) (pc := 52) d_X12_findChanges_52 rfl ?_
      refine q_cP (f := (oI Sh)) (av := [.ref 102, .int (v2 / x25), .int (v2 / x26)]) (st := []) (z_runV ck_X12_couldBe rfl ml_X12_347 ci_X12_couldBe cv_X12_couldBe (K_102 h0) (ci := 12) rfl rfl (Nat.le_of_ble_eq_true rfl) d_X12_findChanges_53) (s_X12_couldBe hst h0 (by omega)) kp_I (fun x27 _ => ?_)
      refine r_if_ne (f := (oI Sh)) (pc := 56) 62 d_X12_findChanges_56 (by decide) (fun c28 => ?_) (fun c28 => ?_)
      · refine r_aload_n (pc := 62) 0 d_X12_findChanges_62 rfl rfl ?_
        refine r_iload_n (pc := 63) 2 d_X12_findChanges_63 rfl rfl ?_
        refine q_cV (f := (oI Sh)) (av := [.ref 102, .int v2]) (st := []) (z_runV ck_X12_flips rfl ml_X12_350 ci_X12_flips cv_X12_flips (K_102 h0) (ci := 12) rfl rfl (Nat.le_of_ble_eq_true rfl) d_X12_findChanges_64) (s_X12_flips hst h0 (by omega)) kp_I (fun D29 _ => ?_)
        refine r_aload_n (pc := 67) 0 d_X12_findChanges_67 rfl rfl ?_
        refine q_cP (f := (oI Sh)) (av := [.ref 102]) (st := []) (z_runV ck_X12_isClear rfl ml_X12_353 ci_X12_isClear cv_X12_isClear (K_102 h0) (ci := 12) rfl rfl (Nat.le_of_ble_eq_true rfl) d_X12_findChanges_68) (s_X12_isClear hst h0 (by omega)) kp_I (fun x30 _ => ?_)
        refine r_istore_n (pc := 71) (ls' := [(3, .int x30), (0, .ref 102), (1, .int v1), (2, .int v2)]) d_X12_findChanges_71 rfl (Nat.le_of_ble_eq_true rfl) rfl ?_
        refine r_aload_n (pc := 72) 1 d_X12_findChanges_72 rfl rfl ?_
        refine r_iload_n (pc := 73) 3 d_X12_findChanges_73 rfl rfl ?_
        refine q_cV (f := (oI Sh)) (av := [.ref 102, .int v2]) (st := []) (z_runV ck_X12_flips rfl ml_X12_350 ci_X12_flips cv_X12_flips (K_102 h0) (ci := 12) rfl rfl (Nat.le_of_ble_eq_true rfl) d_X12_findChanges_74) (s_X12_flips hst h0 (by omega)) kp_I (fun D31 _ => ?_)
        refine r_iload_n (pc := 77) 0 d_X12_findChanges_77 rfl rfl ?_
        refine r_if_ne (f := (oI Sh)) (pc := 78) 84 d_X12_findChanges_78 (by decide) (fun c32 => ?_) (fun c32 => ?_)
        · refine r_aload_n (pc := 84) 1 d_X12_findChanges_84 rfl rfl ?_
          refine r_iload_n (pc := 85) 3 d_X12_findChanges_85 rfl rfl ?_
          refine r_putI (pc := 86) p_X12_341 (K_102 h0) rfl (Or.inl rfl) d_X12_findChanges_86 ?_
          refine r_letD (f := (oI Sh)) (fun D33 => ?_)
          refine r_iconst (pc := 89) (1 : Int32) d_X12_findChanges_89 rfl ?_
          exact r_iret (pc := 90) rfl d_X12_findChanges_90
        · refine r_goto (pc := 81) 91 d_X12_findChanges_81 (by decide) ?_
          refine r_iinc (pc := 91) ((v2 + (1 : Int32))) 3 (ls' := [(2, .int (v2 + (1 : Int32))), (3, .int x30), (0, .ref 102), (1, .int v1)]) d_X12_findChanges_91 rfl rfl (Nat.le_of_ble_eq_true rfl) rfl ?_
          refine r_goto (pc := 94) 35 d_X12_findChanges_94 (by decide) ?_
          refine r_pick [2, 3, 0] (ls' := [(0, .ref 102), (1, .int v1), (2, .int (v2 + (1 : Int32)))]) rfl ?_
          exact hk35 v1 (v2 + (1 : Int32)) D31 
      · refine r_goto (pc := 59) 91 d_X12_findChanges_59 (by decide) ?_
        refine r_iinc (pc := 91) ((v2 + (1 : Int32))) 2 (ls' := [(2, .int (v2 + (1 : Int32))), (0, .ref 102), (1, .int v1)]) d_X12_findChanges_91 rfl rfl (Nat.le_of_ble_eq_true rfl) rfl ?_
        refine r_goto (pc := 94) 35 d_X12_findChanges_94 (by decide) ?_
        refine r_pick [1, 2, 0] (ls' := [(0, .ref 102), (1, .int v1), (2, .int (v2 + (1 : Int32)))]) rfl ?_
        exact hk35 v1 (v2 + (1 : Int32)) D 
theorem s_X12_findChanges {X : zX} {Sh : zSh} {d : Nat} (hst : (zl X).stackTraces = false) (h0 : zSh0 Sh) (hd : 5 ≤ d)  {D : zD} : Sd X m_X12_findChanges d [.ref 102] (Sh, D) ((oI Sh) (fn_X12_findChanges D)) := by
  obtain ⟨d, rfl⟩ : ∃ e, d = e + 1 := ⟨d - 1, by omega⟩
  replace hd : 4 ≤ d := by omega
  refine z_body ck_X12_findChanges rfl (Nat.le_of_ble_eq_true rfl) rfl hst ?_
  rw [fn_X12_findChanges]
  show Rn X m_X12_findChanges (d + 1) 0 [(0, .ref 102)] [] (Sh, D) _
  refine r_aload_n (pc := 0) 0 d_X12_findChanges_0 rfl rfl ?_
  refine r_iconst (pc := 1) (-1 : Int32) d_X12_findChanges_1 rfl ?_
  refine r_putI (pc := 2) p_X12_341 (K_102 h0) rfl (Or.inl rfl) d_X12_findChanges_2 ?_
  refine r_letD (f := (oI Sh)) (fun D1 => ?_)
  refine r_aload_n (pc := 5) 0 d_X12_findChanges_5 rfl rfl ?_
  refine r_iconst (pc := 6) (-1 : Int32) d_X12_findChanges_6 rfl ?_
  refine r_putI (pc := 7) p_X12_344 (K_102 h0) rfl (Or.inl rfl) d_X12_findChanges_7 ?_
  refine r_letD (f := (oI Sh)) (fun D2 => ?_)
  refine r_aload_n (pc := 10) 0 d_X12_findChanges_10 rfl rfl ?_
  refine q_cV (f := (oI Sh)) (av := [.ref 102]) (st := []) (z_runV ck_X12_layNow rfl ml_X12_311 ci_X12_layNow cv_X12_layNow (K_102 h0) (ci := 12) rfl rfl (Nat.le_of_ble_eq_true rfl) d_X12_findChanges_11) (s_X12_layNow hst h0 (by omega)) kp_I (fun D3 _ => ?_)
  refine r_aload_n (pc := 14) 0 d_X12_findChanges_14 rfl rfl ?_
  refine q_cI (f := (oI Sh)) (av := [.ref 102]) (st := []) (z_runV ck_X12_layPairs rfl ml_X12_314 ci_X12_layPairs cv_X12_layPairs (K_102 h0) (ci := 12) rfl rfl (Nat.le_of_ble_eq_true rfl) d_X12_findChanges_15) (s_X12_layPairs hst h0 (by omega)) kp_I (fun q4 _ => ?_)
  refine r_if_ne (f := (oI Sh)) (pc := 18) 23 d_X12_findChanges_18 (by decide) (fun c5 => ?_) (fun c5 => ?_)
  · refine r_aload_n (pc := 23) 0 d_X12_findChanges_23 rfl rfl ?_
    refine q_gI (pc := 24) g_X12_224 (K_102 h0) rfl d_X12_findChanges_24 ?_
    refine r_aload_n (pc := 27) 0 d_X12_findChanges_27 rfl rfl ?_
    refine q_cP (f := (oI Sh)) (av := [.ref 102]) (st := [.int (gI q4.2 102 16)]) (z_runV ck_X12_cells rfl ml_X12_242 ci_X12_cells cv_X12_cells (K_102 h0) (ci := 12) rfl rfl (Nat.le_of_ble_eq_true rfl) d_X12_findChanges_28) (s_X12_cells hst h0 (by omega)) kp_I (fun x6 _ => ?_)
    refine r_imul (pc := 31) d_X12_findChanges_31 ?_
    refine r_leti (f := (oI Sh)) (fun x7 => ?_)
    refine r_istore_n (pc := 32) (ls' := [(1, .int x7), (0, .ref 102)]) d_X12_findChanges_32 rfl (Nat.le_of_ble_eq_true rfl) rfl ?_
    refine r_iconst (pc := 33) (0 : Int32) d_X12_findChanges_33 rfl ?_
    refine r_istore_n (pc := 34) (ls' := [(2, .int (0 : Int32)), (1, .int x7), (0, .ref 102)]) d_X12_findChanges_34 rfl (Nat.le_of_ble_eq_true rfl) rfl ?_
    refine r_pick [2, 1, 0] (ls' := [(0, .ref 102), (1, .int x7), (2, .int (0 : Int32))]) rfl ?_
    exact s_X12_findChanges_35 hst h0 hd zFU  x7 (0 : Int32) q4.2
  · refine r_iconst (pc := 21) (0 : Int32) d_X12_findChanges_21 rfl ?_
    exact r_iret (pc := 22) rfl d_X12_findChanges_22
/-! CoveredSignsModel.changed -/
theorem d_X12_changed_0 : decode (yB m_X12_changed) 0 = .ok (.aload_n 0, 1) := by decide +kernel
theorem d_X12_changed_1 : decode (yB m_X12_changed) 1 = .ok (.iconst 0, 1) := by decide +kernel
theorem d_X12_changed_2 : decode (yB m_X12_changed) 2 = .ok (.putfield 113, 3) := by decide +kernel
theorem d_X12_changed_5 : decode (yB m_X12_changed) 5 = .ok (.aload_n 0, 1) := by decide +kernel
theorem d_X12_changed_6 : decode (yB m_X12_changed) 6 = .ok (.iload_n 1, 1) := by decide +kernel
theorem d_X12_changed_7 : decode (yB m_X12_changed) 7 = .ok (.iconst 0, 1) := by decide +kernel
theorem d_X12_changed_8 : decode (yB m_X12_changed) 8 = .ok (.iconst 2, 1) := by decide +kernel
theorem d_X12_changed_9 : decode (yB m_X12_changed) 9 = .ok (.invokestatic 147, 3) := by decide +kernel
theorem d_X12_changed_12 : decode (yB m_X12_changed) 12 = .ok (.ifCond .ne 7, 3) := by decide +kernel
theorem d_X12_changed_15 : decode (yB m_X12_changed) 15 = .ok (.iconst 1, 1) := by decide +kernel
theorem d_X12_changed_16 : decode (yB m_X12_changed) 16 = .ok (.goto 4, 3) := by decide +kernel
theorem d_X12_changed_19 : decode (yB m_X12_changed) 19 = .ok (.iconst 0, 1) := by decide +kernel
theorem d_X12_changed_20 : decode (yB m_X12_changed) 20 = .ok (.iconst 1, 1) := by decide +kernel
theorem d_X12_changed_21 : decode (yB m_X12_changed) 21 = .ok (.invokevirtual 214, 3) := by decide +kernel
theorem d_X12_changed_24 : decode (yB m_X12_changed) 24 = .ok (.ifCond .eq 5, 3) := by decide +kernel
theorem d_X12_changed_27 : decode (yB m_X12_changed) 27 = .ok (.iconst 0, 1) := by decide +kernel
theorem d_X12_changed_28 : decode (yB m_X12_changed) 28 = .ok (.ireturn, 1) := by decide +kernel
theorem d_X12_changed_29 : decode (yB m_X12_changed) 29 = .ok (.aload_n 0, 1) := by decide +kernel
theorem d_X12_changed_30 : decode (yB m_X12_changed) 30 = .ok (.invokevirtual 357, 3) := by decide +kernel
theorem d_X12_changed_33 : decode (yB m_X12_changed) 33 = .ok (.istore_n 2, 1) := by decide +kernel
theorem d_X12_changed_34 : decode (yB m_X12_changed) 34 = .ok (.iload_n 1, 1) := by decide +kernel
theorem d_X12_changed_35 : decode (yB m_X12_changed) 35 = .ok (.iconst 1, 1) := by decide +kernel
theorem d_X12_changed_36 : decode (yB m_X12_changed) 36 = .ok (.if_icmp .ne 10, 3) := by decide +kernel
theorem d_X12_changed_39 : decode (yB m_X12_changed) 39 = .ok (.aload_n 0, 1) := by decide +kernel
theorem d_X12_changed_40 : decode (yB m_X12_changed) 40 = .ok (.getfield 341, 3) := by decide +kernel
theorem d_X12_changed_43 : decode (yB m_X12_changed) 43 = .ok (.goto 7, 3) := by decide +kernel
theorem d_X12_changed_46 : decode (yB m_X12_changed) 46 = .ok (.aload_n 0, 1) := by decide +kernel
theorem d_X12_changed_47 : decode (yB m_X12_changed) 47 = .ok (.getfield 344, 3) := by decide +kernel
theorem d_X12_changed_50 : decode (yB m_X12_changed) 50 = .ok (.istore_n 3, 1) := by decide +kernel
theorem d_X12_changed_51 : decode (yB m_X12_changed) 51 = .ok (.iload_n 1, 1) := by decide +kernel
theorem d_X12_changed_52 : decode (yB m_X12_changed) 52 = .ok (.ifCond .ne 7, 3) := by decide +kernel
theorem d_X12_changed_55 : decode (yB m_X12_changed) 55 = .ok (.iload_n 2, 1) := by decide +kernel
theorem d_X12_changed_56 : decode (yB m_X12_changed) 56 = .ok (.goto 28, 3) := by decide +kernel
theorem d_X12_changed_59 : decode (yB m_X12_changed) 59 = .ok (.iload_n 3, 1) := by decide +kernel
theorem d_X12_changed_60 : decode (yB m_X12_changed) 60 = .ok (.iconst (-1), 1) := by decide +kernel
theorem d_X12_changed_61 : decode (yB m_X12_changed) 61 = .ok (.if_icmp .ne 7, 3) := by decide +kernel
theorem d_X12_changed_64 : decode (yB m_X12_changed) 64 = .ok (.iconst (-1), 1) := by decide +kernel
theorem d_X12_changed_65 : decode (yB m_X12_changed) 65 = .ok (.goto 19, 3) := by decide +kernel
theorem d_X12_changed_68 : decode (yB m_X12_changed) 68 = .ok (.bipush 100, 2) := by decide +kernel
theorem d_X12_changed_70 : decode (yB m_X12_changed) 70 = .ok (.iload_n 3, 1) := by decide +kernel
theorem d_X12_changed_71 : decode (yB m_X12_changed) 71 = .ok (.aload_n 0, 1) := by decide +kernel
theorem d_X12_changed_72 : decode (yB m_X12_changed) 72 = .ok (.invokevirtual 242, 3) := by decide +kernel
theorem d_X12_changed_75 : decode (yB m_X12_changed) 75 = .ok (.idiv, 1) := by decide +kernel
theorem d_X12_changed_76 : decode (yB m_X12_changed) 76 = .ok (.imul, 1) := by decide +kernel
theorem d_X12_changed_77 : decode (yB m_X12_changed) 77 = .ok (.iload_n 3, 1) := by decide +kernel
theorem d_X12_changed_78 : decode (yB m_X12_changed) 78 = .ok (.aload_n 0, 1) := by decide +kernel
theorem d_X12_changed_79 : decode (yB m_X12_changed) 79 = .ok (.invokevirtual 242, 3) := by decide +kernel
theorem d_X12_changed_82 : decode (yB m_X12_changed) 82 = .ok (.irem, 1) := by decide +kernel
theorem d_X12_changed_83 : decode (yB m_X12_changed) 83 = .ok (.iadd, 1) := by decide +kernel
theorem d_X12_changed_84 : decode (yB m_X12_changed) 84 = .ok (.ireturn, 1) := by decide +kernel
def fn_X12_changed_50 (v1 : Int32) (v2 : Int32) (w0 : Int32) (D : zD) : Option (Int32 × zD) := (if v1 = 0 then ((some (v2, D))) else ((if w0 = (-1 : Int32) then ((some ((-1 : Int32), D))) else ((fn_X12_cells D).bind fun x10 => zdv x10 <| (fn_X12_cells D).bind fun x11 => zdv x11 <| (some ((((100 : Int32) * (w0 / x10)) + (w0 - w0 / x11 * x11)), D))))))
def fn_X12_changed_20 (v1 : Int32) (w1 : Int32) (D : zD) : Option (Int32 × zD) := (fn_X12_bad w1 (1 : Int32) D).bind fun q4 => (if q4.1 = 0 then ((fn_X12_findChanges q4.2).bind fun q6 => (if v1 = (1 : Int32) then ((fn_X12_changed_50 v1 q6.1 (gI q6.2 102 48) q6.2)) else ((fn_X12_changed_50 v1 q6.1 (gI q6.2 102 49) q6.2)))) else ((some ((0 : Int32), q4.2))))
def fn_X12_changed (v1 : Int32) (D : zD) : Option (Int32 × zD) := zlet (sI D 102 0 (0 : Int32)) fun D1 => (fn_X12_in v1 (0 : Int32) (2 : Int32)).bind fun x2 => (if x2 = 0 then ((fn_X12_changed_20 v1 (1 : Int32) D1)) else ((fn_X12_changed_20 v1 (0 : Int32) D1)))
theorem s_X12_changed_50 {X : zX} {Sh : zSh} {d : Nat} (hst : (zl X).stackTraces = false) (h0 : zSh0 Sh) (hd : 5 ≤ d) {v1 : Int32} (v2 : Int32) (w0 : Int32) (D : zD)  : Rn X m_X12_changed (d + 1) 50 [(0, .ref 102), (1, .int v1), (2, .int v2)] [.int w0] (Sh, D) ((oI Sh) (fn_X12_changed_50 v1 v2 w0 D)) := by
  rw [fn_X12_changed_50]
  refine r_istore_n (pc := 50) (ls' := [(3, .int w0), (0, .ref 102), (1, .int v1), (2, .int v2)]) d_X12_changed_50 rfl (Nat.le_of_ble_eq_true rfl) rfl ?_
  refine r_iload_n (pc := 51) 2 d_X12_changed_51 rfl rfl ?_
  refine r_if_ne (f := (oI Sh)) (pc := 52) 59 d_X12_changed_52 (by decide) (fun c8 => ?_) (fun c8 => ?_)
  · refine r_iload_n (pc := 59) 0 d_X12_changed_59 rfl rfl ?_
    refine r_iconst (pc := 60) (-1 : Int32) d_X12_changed_60 rfl ?_
    refine r_icmp_ne (f := (oI Sh)) (pc := 61) 68 d_X12_changed_61 (by decide) (fun c9 => ?_) (fun c9 => ?_)
    · refine r_bipush (pc := 68) (100 : Int32) d_X12_changed_68 rfl ?_
      refine r_iload_n (pc := 70) 0 d_X12_changed_70 rfl rfl ?_
      refine r_aload_n (pc := 71) 1 d_X12_changed_71 rfl rfl ?_
      refine q_cP (f := (oI Sh)) (av := [.ref 102]) (st := [.int w0, .int (100 : Int32)]) (z_runV ck_X12_cells rfl ml_X12_242 ci_X12_cells cv_X12_cells (K_102 h0) (ci := 12) rfl rfl (Nat.le_of_ble_eq_true rfl) d_X12_changed_72) (s_X12_cells hst h0 (by omega)) kp_I (fun x10 _ => ?_)
      refine r_idiv (f := (oI Sh)) (pc := 75) d_X12_changed_75 rfl ?_
      refine r_imul (pc := 76) d_X12_changed_76 ?_
      refine r_iload_n (pc := 77) 0 d_X12_changed_77 rfl rfl ?_
      refine r_aload_n (pc := 78) 1 d_X12_changed_78 rfl rfl ?_
      refine q_cP (f := (oI Sh)) (av := [.ref 102]) (st := [.int w0, .int ((100 : Int32) * (w0 / x10))]) (z_runV ck_X12_cells rfl ml_X12_242 ci_X12_cells cv_X12_cells (K_102 h0) (ci := 12) rfl rfl (Nat.le_of_ble_eq_true rfl) d_X12_changed_79) (s_X12_cells hst h0 (by omega)) kp_I (fun x11 _ => ?_)
      refine r_irem (f := (oI Sh)) (pc := 82) d_X12_changed_82 rfl ?_
      refine r_iadd (pc := 83) d_X12_changed_83 ?_
      exact r_iret (pc := 84) rfl d_X12_changed_84
    · refine r_iconst (pc := 64) (-1 : Int32) d_X12_changed_64 rfl ?_
      refine r_goto (pc := 65) 84 d_X12_changed_65 (by decide) ?_
      exact r_iret (pc := 84) rfl d_X12_changed_84
  · refine r_iload_n (pc := 55) 3 d_X12_changed_55 rfl rfl ?_
    refine r_goto (pc := 56) 84 d_X12_changed_56 (by decide) ?_
    exact r_iret (pc := 84) rfl d_X12_changed_84
theorem s_X12_changed_20 {X : zX} {Sh : zSh} {d : Nat} (hst : (zl X).stackTraces = false) (h0 : zSh0 Sh) (hd : 5 ≤ d) {v1 : Int32} (w1 : Int32) (D : zD)  : Rn X m_X12_changed (d + 1) 20 [(0, .ref 102), (1, .int v1)] [.int w1, .ref 102] (Sh, D) ((oI Sh) (fn_X12_changed_20 v1 w1 D)) := by
  rw [fn_X12_changed_20]
  refine r_iconst (pc := 20) (1 : Int32) d_X12_changed_20 rfl ?_
  refine q_cI (f := (oI Sh)) (av := [.ref 102, .int w1, .int (1 : Int32)]) (st := []) (z_runV ck_X12_bad rfl ml_X12_214 ci_X12_bad cv_X12_bad (K_102 h0) (ci := 12) rfl rfl (Nat.le_of_ble_eq_true rfl) d_X12_changed_21) (s_X12_bad hst h0 (by omega)) kp_I (fun q4 _ => ?_)
  refine r_if_eq (f := (oI Sh)) (pc := 24) 29 d_X12_changed_24 (by decide) (fun c5 => ?_) (fun c5 => ?_)
  · refine r_aload_n (pc := 29) 0 d_X12_changed_29 rfl rfl ?_
    refine q_cI (f := (oI Sh)) (av := [.ref 102]) (st := []) (z_runV ck_X12_findChanges rfl ml_X12_357 ci_X12_findChanges cv_X12_findChanges (K_102 h0) (ci := 12) rfl rfl (Nat.le_of_ble_eq_true rfl) d_X12_changed_30) (s_X12_findChanges hst h0 (by omega)) kp_I (fun q6 _ => ?_)
    refine r_istore_n (pc := 33) (ls' := [(2, .int q6.1), (0, .ref 102), (1, .int v1)]) d_X12_changed_33 rfl (Nat.le_of_ble_eq_true rfl) rfl ?_
    refine r_iload_n (pc := 34) 2 d_X12_changed_34 rfl rfl ?_
    refine r_iconst (pc := 35) (1 : Int32) d_X12_changed_35 rfl ?_
    refine r_icmp_ne (f := (oI Sh)) (pc := 36) 46 d_X12_changed_36 (by decide) (fun c7 => ?_) (fun c7 => ?_)
    · refine r_aload_n (pc := 46) 1 d_X12_changed_46 rfl rfl ?_
      refine q_gI (pc := 47) g_X12_344 (K_102 h0) rfl d_X12_changed_47 ?_
      refine r_pick [1, 2, 0] (ls' := [(0, .ref 102), (1, .int v1), (2, .int q6.1)]) rfl ?_
      exact s_X12_changed_50 hst h0 hd q6.1 (gI q6.2 102 49) q6.2
    · refine r_aload_n (pc := 39) 1 d_X12_changed_39 rfl rfl ?_
      refine q_gI (pc := 40) g_X12_341 (K_102 h0) rfl d_X12_changed_40 ?_
      refine r_goto (pc := 43) 50 d_X12_changed_43 (by decide) ?_
      refine r_pick [1, 2, 0] (ls' := [(0, .ref 102), (1, .int v1), (2, .int q6.1)]) rfl ?_
      exact s_X12_changed_50 hst h0 hd q6.1 (gI q6.2 102 48) q6.2
  · refine r_iconst (pc := 27) (0 : Int32) d_X12_changed_27 rfl ?_
    exact r_iret (pc := 28) rfl d_X12_changed_28
theorem s_X12_changed {X : zX} {Sh : zSh} {d : Nat} (hst : (zl X).stackTraces = false) (h0 : zSh0 Sh) (hd : 6 ≤ d) {v1 : Int32} {D : zD} : Sd X m_X12_changed d [.ref 102, .int v1] (Sh, D) ((oI Sh) (fn_X12_changed v1 D)) := by
  obtain ⟨d, rfl⟩ : ∃ e, d = e + 1 := ⟨d - 1, by omega⟩
  replace hd : 5 ≤ d := by omega
  refine z_body ck_X12_changed rfl (Nat.le_of_ble_eq_true rfl) rfl hst ?_
  rw [fn_X12_changed]
  show Rn X m_X12_changed (d + 1) 0 [(0, .ref 102), (1, .int v1)] [] (Sh, D) _
  refine r_aload_n (pc := 0) 0 d_X12_changed_0 rfl rfl ?_
  refine r_iconst (pc := 1) (0 : Int32) d_X12_changed_1 rfl ?_
  refine r_putI (pc := 2) p_X12_113 (K_102 h0) rfl (Or.inl rfl) d_X12_changed_2 ?_
  refine r_letD (f := (oI Sh)) (fun D1 => ?_)
  refine r_aload_n (pc := 5) 0 d_X12_changed_5 rfl rfl ?_
  refine r_iload_n (pc := 6) 1 d_X12_changed_6 rfl rfl ?_
  refine r_iconst (pc := 7) (0 : Int32) d_X12_changed_7 rfl ?_
  refine r_iconst (pc := 8) (2 : Int32) d_X12_changed_8 rfl ?_
  refine q_cP (f := (oI Sh)) (av := [.int v1, .int (0 : Int32), .int (2 : Int32)]) (st := [.ref 102]) (z_runS ck_X12_in rfl ml_X12_147 cs_X12_in rfl (Nat.le_of_ble_eq_true rfl) d_X12_changed_9) (s_X12_in hst h0 (by omega)) kp_I (fun x2 _ => ?_)
  refine r_if_ne (f := (oI Sh)) (pc := 12) 19 d_X12_changed_12 (by decide) (fun c3 => ?_) (fun c3 => ?_)
  · refine r_iconst (pc := 19) (0 : Int32) d_X12_changed_19 rfl ?_
    refine r_pick [0, 1] (ls' := [(0, .ref 102), (1, .int v1)]) rfl ?_
    exact s_X12_changed_20 hst h0 hd (0 : Int32) D1
  · refine r_iconst (pc := 15) (1 : Int32) d_X12_changed_15 rfl ?_
    refine r_goto (pc := 16) 20 d_X12_changed_16 (by decide) ?_
    refine r_pick [0, 1] (ls' := [(0, .ref 102), (1, .int v1)]) rfl ?_
    exact s_X12_changed_20 hst h0 hd (1 : Int32) D1
/-! CoveredSignsModel.bound -/
theorem d_X12_bound_0 : decode (yB m_X12_bound) 0 = .ok (.aload_n 0, 1) := by decide +kernel
theorem d_X12_bound_1 : decode (yB m_X12_bound) 1 = .ok (.iconst 0, 1) := by decide +kernel
theorem d_X12_bound_2 : decode (yB m_X12_bound) 2 = .ok (.putfield 113, 3) := by decide +kernel
theorem d_X12_bound_5 : decode (yB m_X12_bound) 5 = .ok (.aload_n 0, 1) := by decide +kernel
theorem d_X12_bound_6 : decode (yB m_X12_bound) 6 = .ok (.invokevirtual 311, 3) := by decide +kernel
theorem d_X12_bound_9 : decode (yB m_X12_bound) 9 = .ok (.aload_n 0, 1) := by decide +kernel
theorem d_X12_bound_10 : decode (yB m_X12_bound) 10 = .ok (.invokevirtual 314, 3) := by decide +kernel
theorem d_X12_bound_13 : decode (yB m_X12_bound) 13 = .ok (.pop, 1) := by decide +kernel
theorem d_X12_bound_14 : decode (yB m_X12_bound) 14 = .ok (.iconst 0, 1) := by decide +kernel
theorem d_X12_bound_15 : decode (yB m_X12_bound) 15 = .ok (.istore_n 1, 1) := by decide +kernel
theorem d_X12_bound_16 : decode (yB m_X12_bound) 16 = .ok (.iload_n 1, 1) := by decide +kernel
theorem d_X12_bound_17 : decode (yB m_X12_bound) 17 = .ok (.iconst 1, 1) := by decide +kernel
theorem d_X12_bound_18 : decode (yB m_X12_bound) 18 = .ok (.aload_n 0, 1) := by decide +kernel
theorem d_X12_bound_19 : decode (yB m_X12_bound) 19 = .ok (.getfield 224, 3) := by decide +kernel
theorem d_X12_bound_22 : decode (yB m_X12_bound) 22 = .ok (.ishl, 1) := by decide +kernel
theorem d_X12_bound_23 : decode (yB m_X12_bound) 23 = .ok (.if_icmp .ge 142, 3) := by decide +kernel
theorem d_X12_bound_26 : decode (yB m_X12_bound) 26 = .ok (.aload_n 0, 1) := by decide +kernel
theorem d_X12_bound_27 : decode (yB m_X12_bound) 27 = .ok (.getfield 94, 3) := by decide +kernel
theorem d_X12_bound_30 : decode (yB m_X12_bound) 30 = .ok (.iload_n 1, 1) := by decide +kernel
theorem d_X12_bound_31 : decode (yB m_X12_bound) 31 = .ok (.iconst 0, 1) := by decide +kernel
theorem d_X12_bound_32 : decode (yB m_X12_bound) 32 = .ok (.iastore, 1) := by decide +kernel
theorem d_X12_bound_33 : decode (yB m_X12_bound) 33 = .ok (.iload_n 1, 1) := by decide +kernel
theorem d_X12_bound_34 : decode (yB m_X12_bound) 34 = .ok (.ifCond .ne 6, 3) := by decide +kernel
theorem d_X12_bound_37 : decode (yB m_X12_bound) 37 = .ok (.goto 122, 3) := by decide +kernel
theorem d_X12_bound_40 : decode (yB m_X12_bound) 40 = .ok (.iconst 0, 1) := by decide +kernel
theorem d_X12_bound_41 : decode (yB m_X12_bound) 41 = .ok (.istore_n 2, 1) := by decide +kernel
theorem d_X12_bound_42 : decode (yB m_X12_bound) 42 = .ok (.iload_n 1, 1) := by decide +kernel
theorem d_X12_bound_43 : decode (yB m_X12_bound) 43 = .ok (.iload_n 2, 1) := by decide +kernel
theorem d_X12_bound_44 : decode (yB m_X12_bound) 44 = .ok (.ishr, 1) := by decide +kernel
theorem d_X12_bound_45 : decode (yB m_X12_bound) 45 = .ok (.iconst 1, 1) := by decide +kernel
theorem d_X12_bound_46 : decode (yB m_X12_bound) 46 = .ok (.iand, 1) := by decide +kernel
theorem d_X12_bound_47 : decode (yB m_X12_bound) 47 = .ok (.ifCond .ne 9, 3) := by decide +kernel
theorem d_X12_bound_50 : decode (yB m_X12_bound) 50 = .ok (.iinc 2 1, 3) := by decide +kernel
theorem d_X12_bound_53 : decode (yB m_X12_bound) 53 = .ok (.goto (-11), 3) := by decide +kernel
theorem d_X12_bound_56 : decode (yB m_X12_bound) 56 = .ok (.iload_n 1, 1) := by decide +kernel
theorem d_X12_bound_57 : decode (yB m_X12_bound) 57 = .ok (.iconst 1, 1) := by decide +kernel
theorem d_X12_bound_58 : decode (yB m_X12_bound) 58 = .ok (.iload_n 2, 1) := by decide +kernel
theorem d_X12_bound_59 : decode (yB m_X12_bound) 59 = .ok (.ishl, 1) := by decide +kernel
theorem d_X12_bound_60 : decode (yB m_X12_bound) 60 = .ok (.iconst (-1), 1) := by decide +kernel
theorem d_X12_bound_61 : decode (yB m_X12_bound) 61 = .ok (.ixor, 1) := by decide +kernel
theorem d_X12_bound_62 : decode (yB m_X12_bound) 62 = .ok (.iand, 1) := by decide +kernel
theorem d_X12_bound_63 : decode (yB m_X12_bound) 63 = .ok (.istore_n 3, 1) := by decide +kernel
theorem d_X12_bound_64 : decode (yB m_X12_bound) 64 = .ok (.aload_n 0, 1) := by decide +kernel
theorem d_X12_bound_65 : decode (yB m_X12_bound) 65 = .ok (.getfield 94, 3) := by decide +kernel
theorem d_X12_bound_68 : decode (yB m_X12_bound) 68 = .ok (.iload_n 3, 1) := by decide +kernel
theorem d_X12_bound_69 : decode (yB m_X12_bound) 69 = .ok (.iaload, 1) := by decide +kernel
theorem d_X12_bound_70 : decode (yB m_X12_bound) 70 = .ok (.istore 4, 2) := by decide +kernel
theorem d_X12_bound_72 : decode (yB m_X12_bound) 72 = .ok (.iload_n 2, 1) := by decide +kernel
theorem d_X12_bound_73 : decode (yB m_X12_bound) 73 = .ok (.iconst 1, 1) := by decide +kernel
theorem d_X12_bound_74 : decode (yB m_X12_bound) 74 = .ok (.iadd, 1) := by decide +kernel
theorem d_X12_bound_75 : decode (yB m_X12_bound) 75 = .ok (.istore 5, 2) := by decide +kernel
theorem d_X12_bound_77 : decode (yB m_X12_bound) 77 = .ok (.iload 5, 2) := by decide +kernel
theorem d_X12_bound_79 : decode (yB m_X12_bound) 79 = .ok (.aload_n 0, 1) := by decide +kernel
theorem d_X12_bound_80 : decode (yB m_X12_bound) 80 = .ok (.getfield 224, 3) := by decide +kernel
theorem d_X12_bound_83 : decode (yB m_X12_bound) 83 = .ok (.if_icmp .ge 68, 3) := by decide +kernel
theorem d_X12_bound_86 : decode (yB m_X12_bound) 86 = .ok (.iload_n 1, 1) := by decide +kernel
theorem d_X12_bound_87 : decode (yB m_X12_bound) 87 = .ok (.iload 5, 2) := by decide +kernel
theorem d_X12_bound_89 : decode (yB m_X12_bound) 89 = .ok (.ishr, 1) := by decide +kernel
theorem d_X12_bound_90 : decode (yB m_X12_bound) 90 = .ok (.iconst 1, 1) := by decide +kernel
theorem d_X12_bound_91 : decode (yB m_X12_bound) 91 = .ok (.iand, 1) := by decide +kernel
theorem d_X12_bound_92 : decode (yB m_X12_bound) 92 = .ok (.iconst 1, 1) := by decide +kernel
theorem d_X12_bound_93 : decode (yB m_X12_bound) 93 = .ok (.if_icmp .ne 52, 3) := by decide +kernel
theorem d_X12_bound_96 : decode (yB m_X12_bound) 96 = .ok (.aload_n 0, 1) := by decide +kernel
theorem d_X12_bound_97 : decode (yB m_X12_bound) 97 = .ok (.getfield 75, 3) := by decide +kernel
theorem d_X12_bound_100 : decode (yB m_X12_bound) 100 = .ok (.iload_n 2, 1) := by decide +kernel
theorem d_X12_bound_101 : decode (yB m_X12_bound) 101 = .ok (.aaload, 1) := by decide +kernel
theorem d_X12_bound_102 : decode (yB m_X12_bound) 102 = .ok (.iload 5, 2) := by decide +kernel
theorem d_X12_bound_104 : decode (yB m_X12_bound) 104 = .ok (.baload, 1) := by decide +kernel
theorem d_X12_bound_105 : decode (yB m_X12_bound) 105 = .ok (.ifCond .eq 40, 3) := by decide +kernel
theorem d_X12_bound_108 : decode (yB m_X12_bound) 108 = .ok (.aload_n 0, 1) := by decide +kernel
theorem d_X12_bound_109 : decode (yB m_X12_bound) 109 = .ok (.getfield 94, 3) := by decide +kernel
theorem d_X12_bound_112 : decode (yB m_X12_bound) 112 = .ok (.iload_n 3, 1) := by decide +kernel
theorem d_X12_bound_113 : decode (yB m_X12_bound) 113 = .ok (.iconst 1, 1) := by decide +kernel
theorem d_X12_bound_114 : decode (yB m_X12_bound) 114 = .ok (.iload 5, 2) := by decide +kernel
theorem d_X12_bound_116 : decode (yB m_X12_bound) 116 = .ok (.ishl, 1) := by decide +kernel
theorem d_X12_bound_117 : decode (yB m_X12_bound) 117 = .ok (.iconst (-1), 1) := by decide +kernel
theorem d_X12_bound_118 : decode (yB m_X12_bound) 118 = .ok (.ixor, 1) := by decide +kernel
theorem d_X12_bound_119 : decode (yB m_X12_bound) 119 = .ok (.iand, 1) := by decide +kernel
theorem d_X12_bound_120 : decode (yB m_X12_bound) 120 = .ok (.iaload, 1) := by decide +kernel
theorem d_X12_bound_121 : decode (yB m_X12_bound) 121 = .ok (.iconst 1, 1) := by decide +kernel
theorem d_X12_bound_122 : decode (yB m_X12_bound) 122 = .ok (.iadd, 1) := by decide +kernel
theorem d_X12_bound_123 : decode (yB m_X12_bound) 123 = .ok (.iload 4, 2) := by decide +kernel
theorem d_X12_bound_125 : decode (yB m_X12_bound) 125 = .ok (.if_icmp .le 20, 3) := by decide +kernel
theorem d_X12_bound_128 : decode (yB m_X12_bound) 128 = .ok (.aload_n 0, 1) := by decide +kernel
theorem d_X12_bound_129 : decode (yB m_X12_bound) 129 = .ok (.getfield 94, 3) := by decide +kernel
theorem d_X12_bound_132 : decode (yB m_X12_bound) 132 = .ok (.iload_n 3, 1) := by decide +kernel
theorem d_X12_bound_133 : decode (yB m_X12_bound) 133 = .ok (.iconst 1, 1) := by decide +kernel
theorem d_X12_bound_134 : decode (yB m_X12_bound) 134 = .ok (.iload 5, 2) := by decide +kernel
theorem d_X12_bound_136 : decode (yB m_X12_bound) 136 = .ok (.ishl, 1) := by decide +kernel
theorem d_X12_bound_137 : decode (yB m_X12_bound) 137 = .ok (.iconst (-1), 1) := by decide +kernel
theorem d_X12_bound_138 : decode (yB m_X12_bound) 138 = .ok (.ixor, 1) := by decide +kernel
theorem d_X12_bound_139 : decode (yB m_X12_bound) 139 = .ok (.iand, 1) := by decide +kernel
theorem d_X12_bound_140 : decode (yB m_X12_bound) 140 = .ok (.iaload, 1) := by decide +kernel
theorem d_X12_bound_141 : decode (yB m_X12_bound) 141 = .ok (.iconst 1, 1) := by decide +kernel
theorem d_X12_bound_142 : decode (yB m_X12_bound) 142 = .ok (.iadd, 1) := by decide +kernel
theorem d_X12_bound_143 : decode (yB m_X12_bound) 143 = .ok (.istore 4, 2) := by decide +kernel
theorem d_X12_bound_145 : decode (yB m_X12_bound) 145 = .ok (.iinc 5 1, 3) := by decide +kernel
theorem d_X12_bound_148 : decode (yB m_X12_bound) 148 = .ok (.goto (-71), 3) := by decide +kernel
theorem d_X12_bound_151 : decode (yB m_X12_bound) 151 = .ok (.aload_n 0, 1) := by decide +kernel
theorem d_X12_bound_152 : decode (yB m_X12_bound) 152 = .ok (.getfield 94, 3) := by decide +kernel
theorem d_X12_bound_155 : decode (yB m_X12_bound) 155 = .ok (.iload_n 1, 1) := by decide +kernel
theorem d_X12_bound_156 : decode (yB m_X12_bound) 156 = .ok (.iload 4, 2) := by decide +kernel
theorem d_X12_bound_158 : decode (yB m_X12_bound) 158 = .ok (.iastore, 1) := by decide +kernel
theorem d_X12_bound_159 : decode (yB m_X12_bound) 159 = .ok (.iinc 1 1, 3) := by decide +kernel
theorem d_X12_bound_162 : decode (yB m_X12_bound) 162 = .ok (.goto (-146), 3) := by decide +kernel
theorem d_X12_bound_165 : decode (yB m_X12_bound) 165 = .ok (.aload_n 0, 1) := by decide +kernel
theorem d_X12_bound_166 : decode (yB m_X12_bound) 166 = .ok (.getfield 94, 3) := by decide +kernel
theorem d_X12_bound_169 : decode (yB m_X12_bound) 169 = .ok (.iconst 1, 1) := by decide +kernel
theorem d_X12_bound_170 : decode (yB m_X12_bound) 170 = .ok (.aload_n 0, 1) := by decide +kernel
theorem d_X12_bound_171 : decode (yB m_X12_bound) 171 = .ok (.getfield 224, 3) := by decide +kernel
theorem d_X12_bound_174 : decode (yB m_X12_bound) 174 = .ok (.ishl, 1) := by decide +kernel
theorem d_X12_bound_175 : decode (yB m_X12_bound) 175 = .ok (.iconst 1, 1) := by decide +kernel
theorem d_X12_bound_176 : decode (yB m_X12_bound) 176 = .ok (.isub, 1) := by decide +kernel
theorem d_X12_bound_177 : decode (yB m_X12_bound) 177 = .ok (.iaload, 1) := by decide +kernel
theorem d_X12_bound_178 : decode (yB m_X12_bound) 178 = .ok (.ireturn, 1) := by decide +kernel
def fn_X12_bound_77 (k16 : Int32 → zD → Option (Int32 × zD)) : Nat → Int32 → Int32 → Int32 → Int32 → Int32 → zD → Option (Int32 × zD)
  | 0, _, _, _, _, _, _ => none
  | n + 1, v1, v2, v3, v4, v5, D => (if (gI D 102 16) ≤ v5 then (zck v1 4096 <| zlet (sI D 200 v1.toNatClampNeg v4) fun D16 => (k16 (v1 + (1 : Int32)) D16)) else ((if ((v1 >>> (v5 &&& 31)) &&& (1 : Int32)) = (1 : Int32) then (zck v2 12 <| zck v5 12 <| (if (gI D (183 + v2.toNatClampNeg) v5.toNatClampNeg) = 0 then (((fn_X12_bound_77 k16 n) v1 v2 v3 v4 (v5 + (1 : Int32)) D)) else (zck (v3 &&& (((1 : Int32) <<< (v5 &&& 31)) ^^^ (-1 : Int32))) 4096 <| (if ((gI D 200 (v3 &&& (((1 : Int32) <<< (v5 &&& 31)) ^^^ (-1 : Int32))).toNatClampNeg) + (1 : Int32)) ≤ v4 then (((fn_X12_bound_77 k16 n) v1 v2 v3 v4 (v5 + (1 : Int32)) D)) else (zck (v3 &&& (((1 : Int32) <<< (v5 &&& 31)) ^^^ (-1 : Int32))) 4096 <| zlet ((gI D 200 (v3 &&& (((1 : Int32) <<< (v5 &&& 31)) ^^^ (-1 : Int32))).toNatClampNeg) + (1 : Int32)) fun x24 => ((fn_X12_bound_77 k16 n) v1 v2 v3 x24 (v5 + (1 : Int32)) D)))))) else (((fn_X12_bound_77 k16 n) v1 v2 v3 v4 (v5 + (1 : Int32)) D)))))
def fn_X12_bound_56 (k16 : Int32 → zD → Option (Int32 × zD)) (v1 : Int32) (v2 : Int32) (D : zD) : Option (Int32 × zD) := zlet (v1 &&& (((1 : Int32) <<< (v2 &&& 31)) ^^^ (-1 : Int32))) fun x10 => zck x10 4096 <| zlet (gI D 200 x10.toNatClampNeg) fun x12 => zlet (v2 + (1 : Int32)) fun x13 => (fn_X12_bound_77 k16 zFU v1 v2 x10 x12 x13 D)
def fn_X12_bound_42 (k16 : Int32 → zD → Option (Int32 × zD)) : Nat → Int32 → Int32 → zD → Option (Int32 × zD)
  | 0, _, _, _ => none
  | n + 1, v1, v2, D => (if ((v1 >>> (v2 &&& 31)) &&& (1 : Int32)) = 0 then (((fn_X12_bound_42 k16 n) v1 (v2 + (1 : Int32)) D)) else ((fn_X12_bound_56 k16 v1 v2 D)))
def fn_X12_bound_16  : Nat → Int32 → zD → Option (Int32 × zD)
  | 0, _, _ => none
  | n + 1, v1, D => (if ((1 : Int32) <<< ((gI D 102 16) &&& 31)) ≤ v1 then (zck (((1 : Int32) <<< ((gI D 102 16) &&& 31)) - (1 : Int32)) 4096 <| (some ((gI D 200 (((1 : Int32) <<< ((gI D 102 16) &&& 31)) - (1 : Int32)).toNatClampNeg), D))) else (zck v1 4096 <| zlet (sI D 200 v1.toNatClampNeg (0 : Int32)) fun D7 => (if v1 = 0 then (((fn_X12_bound_16  n) (v1 + (1 : Int32)) D7)) else ((fn_X12_bound_42 (fn_X12_bound_16  n) zFU v1 (0 : Int32) D7)))))
def fn_X12_bound (D : zD) : Option (Int32 × zD) := zlet (sI D 102 0 (0 : Int32)) fun D1 => (fn_X12_layNow D1).bind fun D2 => (fn_X12_layPairs D2).bind fun q3 => (fn_X12_bound_16 zFU (0 : Int32) q3.2)
theorem s_X12_bound_77 {X : zX} {Sh : zSh} {d : Nat} (hst : (zl X).stackTraces = false) (h0 : zSh0 Sh) (hd : 4 ≤ d) (k16 : Int32 → zD → Option (Int32 × zD)) (hk16 : ∀ (v1 : Int32) (D : zD) , Rn X m_X12_bound (d + 1) 16 [(0, .ref 102), (1, .int v1)] [] (Sh, D) ((oI Sh) (k16 v1 D))) : ∀ (n : Nat) (v1 : Int32) (v2 : Int32) (v3 : Int32) (v4 : Int32) (v5 : Int32) (D : zD) , Rn X m_X12_bound (d + 1) 77 [(0, .ref 102), (1, .int v1), (2, .int v2), (3, .int v3), (4, .int v4), (5, .int v5)] [] (Sh, D) ((oI Sh) (fn_X12_bound_77 k16 n v1 v2 v3 v4 v5 D)) := by
  intro n
  induction n with
  | zero => intro v1 v2 v3 v4 v5 D; exact Rn_none rfl
  | succ n hk77 =>
    intro v1 v2 v3 v4 v5 D
    rw [fn_X12_bound_77]
    refine r_iload (pc := 77) 5 d_X12_bound_77 rfl ?_
    refine r_aload_n (pc := 79) 0 d_X12_bound_79 rfl rfl ?_
    refine q_gI (pc := 80) g_X12_224 (K_102 h0) rfl d_X12_bound_80 ?_
    refine r_icmp_ge (f := (oI Sh)) (pc := 83) 151 d_X12_bound_83 (by decide) (fun c14 => ?_) (fun c14 => ?_)
    · refine r_aload_n (pc := 151) 0 d_X12_bound_151 rfl rfl ?_
      refine r_getR (pc := 152) g_X12_94 (K_102 h0) rfl (R_102_50 h0) d_X12_bound_152 ?_
      refine r_iload_n (pc := 155) 1 d_X12_bound_155 rfl rfl ?_
      refine r_iload (pc := 156) 4 d_X12_bound_156 rfl ?_
      refine r_ck (f := (oI Sh)) rfl (fun hc15 => ?_)
      refine q_iast (pc := 158) (j := v1.toNatClampNeg) (K_200 h0) hc15 rfl  d_X12_bound_158 ?_
      refine r_letD (f := (oI Sh)) (fun D16 => ?_)
      refine r_iinc (pc := 159) ((v1 + (1 : Int32))) 1 (ls' := [(1, .int (v1 + (1 : Int32))), (0, .ref 102), (2, .int v2), (3, .int v3), (4, .int v4), (5, .int v5)]) d_X12_bound_159 rfl rfl (Nat.le_of_ble_eq_true rfl) rfl ?_
      refine r_goto (pc := 162) 16 d_X12_bound_162 (by decide) ?_
      refine r_pick [1, 0] (ls' := [(0, .ref 102), (1, .int (v1 + (1 : Int32)))]) rfl ?_
      exact hk16 (v1 + (1 : Int32)) D16 
    · refine r_iload_n (pc := 86) 1 d_X12_bound_86 rfl rfl ?_
      refine r_iload (pc := 87) 5 d_X12_bound_87 rfl ?_
      refine r_ishr (pc := 89) d_X12_bound_89 ?_
      refine r_iconst (pc := 90) (1 : Int32) d_X12_bound_90 rfl ?_
      refine r_iand (pc := 91) d_X12_bound_91 ?_
      refine r_iconst (pc := 92) (1 : Int32) d_X12_bound_92 rfl ?_
      refine r_icmp_ne (f := (oI Sh)) (pc := 93) 145 d_X12_bound_93 (by decide) (fun c17 => ?_) (fun c17 => ?_)
      · refine r_iinc (pc := 145) ((v5 + (1 : Int32))) 5 (ls' := [(5, .int (v5 + (1 : Int32))), (0, .ref 102), (1, .int v1), (2, .int v2), (3, .int v3), (4, .int v4)]) d_X12_bound_145 rfl rfl (Nat.le_of_ble_eq_true rfl) rfl ?_
        refine r_goto (pc := 148) 77 d_X12_bound_148 (by decide) ?_
        refine r_pick [1, 2, 3, 4, 5, 0] (ls' := [(0, .ref 102), (1, .int v1), (2, .int v2), (3, .int v3), (4, .int v4), (5, .int (v5 + (1 : Int32)))]) rfl ?_
        exact hk77 v1 v2 v3 v4 (v5 + (1 : Int32)) D 
      · refine r_aload_n (pc := 96) 0 d_X12_bound_96 rfl rfl ?_
        refine r_getR (pc := 97) g_X12_75 (K_102 h0) rfl (R_102_42 h0) d_X12_bound_97 ?_
        refine r_iload_n (pc := 100) 2 d_X12_bound_100 rfl rfl ?_
        refine r_ck (f := (oI Sh)) rfl (fun hc18 => ?_)
        refine q_aald (pc := 101) (j := v2.toNatClampNeg) (K_182 h0) (Or.inr (Or.inl ⟨rfl, rfl⟩)) hc18 rfl (RW_182 h0 _ (z_lt hc18)) d_X12_bound_101 ?_
        refine r_iload (pc := 102) 5 d_X12_bound_102 rfl ?_
        refine r_ck (f := (oI Sh)) rfl (fun hc19 => ?_)
        refine q_zald (pc := 104) (j := v5.toNatClampNeg) (RK_182 h0 _ (z_lt hc18)) hc19 rfl d_X12_bound_104 ?_
        refine r_if_eq (f := (oI Sh)) (pc := 105) 145 d_X12_bound_105 (by decide) (fun c20 => ?_) (fun c20 => ?_)
        · refine r_iinc (pc := 145) ((v5 + (1 : Int32))) 5 (ls' := [(5, .int (v5 + (1 : Int32))), (0, .ref 102), (1, .int v1), (2, .int v2), (3, .int v3), (4, .int v4)]) d_X12_bound_145 rfl rfl (Nat.le_of_ble_eq_true rfl) rfl ?_
          refine r_goto (pc := 148) 77 d_X12_bound_148 (by decide) ?_
          refine r_pick [1, 2, 3, 4, 5, 0] (ls' := [(0, .ref 102), (1, .int v1), (2, .int v2), (3, .int v3), (4, .int v4), (5, .int (v5 + (1 : Int32)))]) rfl ?_
          exact hk77 v1 v2 v3 v4 (v5 + (1 : Int32)) D 
        · refine r_aload_n (pc := 108) 0 d_X12_bound_108 rfl rfl ?_
          refine r_getR (pc := 109) g_X12_94 (K_102 h0) rfl (R_102_50 h0) d_X12_bound_109 ?_
          refine r_iload_n (pc := 112) 3 d_X12_bound_112 rfl rfl ?_
          refine r_iconst (pc := 113) (1 : Int32) d_X12_bound_113 rfl ?_
          refine r_iload (pc := 114) 5 d_X12_bound_114 rfl ?_
          refine r_ishl (pc := 116) d_X12_bound_116 ?_
          refine r_iconst (pc := 117) (-1 : Int32) d_X12_bound_117 rfl ?_
          refine r_ixor (pc := 118) d_X12_bound_118 ?_
          refine r_iand (pc := 119) d_X12_bound_119 ?_
          refine r_ck (f := (oI Sh)) rfl (fun hc21 => ?_)
          refine q_iald (pc := 120) (j := (v3 &&& (((1 : Int32) <<< (v5 &&& 31)) ^^^ (-1 : Int32))).toNatClampNeg) (K_200 h0) hc21 rfl d_X12_bound_120 ?_
          refine r_iconst (pc := 121) (1 : Int32) d_X12_bound_121 rfl ?_
          refine r_iadd (pc := 122) d_X12_bound_122 ?_
          refine r_iload (pc := 123) 4 d_X12_bound_123 rfl ?_
          refine r_icmp_le (f := (oI Sh)) (pc := 125) 145 d_X12_bound_125 (by decide) (fun c22 => ?_) (fun c22 => ?_)
          · refine r_iinc (pc := 145) ((v5 + (1 : Int32))) 5 (ls' := [(5, .int (v5 + (1 : Int32))), (0, .ref 102), (1, .int v1), (2, .int v2), (3, .int v3), (4, .int v4)]) d_X12_bound_145 rfl rfl (Nat.le_of_ble_eq_true rfl) rfl ?_
            refine r_goto (pc := 148) 77 d_X12_bound_148 (by decide) ?_
            refine r_pick [1, 2, 3, 4, 5, 0] (ls' := [(0, .ref 102), (1, .int v1), (2, .int v2), (3, .int v3), (4, .int v4), (5, .int (v5 + (1 : Int32)))]) rfl ?_
            exact hk77 v1 v2 v3 v4 (v5 + (1 : Int32)) D 
          · refine r_aload_n (pc := 128) 0 d_X12_bound_128 rfl rfl ?_
            refine r_getR (pc := 129) g_X12_94 (K_102 h0) rfl (R_102_50 h0) d_X12_bound_129 ?_
            refine r_iload_n (pc := 132) 3 d_X12_bound_132 rfl rfl ?_
            refine r_iconst (pc := 133) (1 : Int32) d_X12_bound_133 rfl ?_
            refine r_iload (pc := 134) 5 d_X12_bound_134 rfl ?_
            refine r_ishl (pc := 136) d_X12_bound_136 ?_
            refine r_iconst (pc := 137) (-1 : Int32) d_X12_bound_137 rfl ?_
            refine r_ixor (pc := 138) d_X12_bound_138 ?_
            refine r_iand (pc := 139) d_X12_bound_139 ?_
            refine r_ck (f := (oI Sh)) rfl (fun hc23 => ?_)
            refine q_iald (pc := 140) (j := (v3 &&& (((1 : Int32) <<< (v5 &&& 31)) ^^^ (-1 : Int32))).toNatClampNeg) (K_200 h0) hc23 rfl d_X12_bound_140 ?_
            refine r_iconst (pc := 141) (1 : Int32) d_X12_bound_141 rfl ?_
            refine r_iadd (pc := 142) d_X12_bound_142 ?_
            refine r_leti (f := (oI Sh)) (fun x24 => ?_)
            refine r_istore (pc := 143) (ls' := [(4, .int x24), (0, .ref 102), (1, .int v1), (2, .int v2), (3, .int v3), (5, .int v5)]) d_X12_bound_143 (Nat.le_of_ble_eq_true rfl) rfl ?_
            refine r_iinc (pc := 145) ((v5 + (1 : Int32))) 5 (ls' := [(5, .int (v5 + (1 : Int32))), (4, .int x24), (0, .ref 102), (1, .int v1), (2, .int v2), (3, .int v3)]) d_X12_bound_145 rfl rfl (Nat.le_of_ble_eq_true rfl) rfl ?_
            refine r_goto (pc := 148) 77 d_X12_bound_148 (by decide) ?_
            refine r_pick [2, 3, 4, 5, 1, 0] (ls' := [(0, .ref 102), (1, .int v1), (2, .int v2), (3, .int v3), (4, .int x24), (5, .int (v5 + (1 : Int32)))]) rfl ?_
            exact hk77 v1 v2 v3 x24 (v5 + (1 : Int32)) D 
theorem s_X12_bound_56 {X : zX} {Sh : zSh} {d : Nat} (hst : (zl X).stackTraces = false) (h0 : zSh0 Sh) (hd : 4 ≤ d) (k16 : Int32 → zD → Option (Int32 × zD)) (hk16 : ∀ (v1 : Int32) (D : zD) , Rn X m_X12_bound (d + 1) 16 [(0, .ref 102), (1, .int v1)] [] (Sh, D) ((oI Sh) (k16 v1 D))) (v1 : Int32) (v2 : Int32) (D : zD)  : Rn X m_X12_bound (d + 1) 56 [(0, .ref 102), (1, .int v1), (2, .int v2)] [] (Sh, D) ((oI Sh) (fn_X12_bound_56 k16 v1 v2 D)) := by
  rw [fn_X12_bound_56]
  refine r_iload_n (pc := 56) 1 d_X12_bound_56 rfl rfl ?_
  refine r_iconst (pc := 57) (1 : Int32) d_X12_bound_57 rfl ?_
  refine r_iload_n (pc := 58) 2 d_X12_bound_58 rfl rfl ?_
  refine r_ishl (pc := 59) d_X12_bound_59 ?_
  refine r_iconst (pc := 60) (-1 : Int32) d_X12_bound_60 rfl ?_
  refine r_ixor (pc := 61) d_X12_bound_61 ?_
  refine r_iand (pc := 62) d_X12_bound_62 ?_
  refine r_leti (f := (oI Sh)) (fun x10 => ?_)
  refine r_istore_n (pc := 63) (ls' := [(3, .int x10), (0, .ref 102), (1, .int v1), (2, .int v2)]) d_X12_bound_63 rfl (Nat.le_of_ble_eq_true rfl) rfl ?_
  refine r_aload_n (pc := 64) 1 d_X12_bound_64 rfl rfl ?_
  refine r_getR (pc := 65) g_X12_94 (K_102 h0) rfl (R_102_50 h0) d_X12_bound_65 ?_
  refine r_iload_n (pc := 68) 0 d_X12_bound_68 rfl rfl ?_
  refine r_ck (f := (oI Sh)) rfl (fun hc11 => ?_)
  refine q_iald (pc := 69) (j := x10.toNatClampNeg) (K_200 h0) hc11 rfl d_X12_bound_69 ?_
  refine r_leti (f := (oI Sh)) (fun x12 => ?_)
  refine r_istore (pc := 70) (ls' := [(4, .int x12), (3, .int x10), (0, .ref 102), (1, .int v1), (2, .int v2)]) d_X12_bound_70 (Nat.le_of_ble_eq_true rfl) rfl ?_
  refine r_iload_n (pc := 72) 4 d_X12_bound_72 rfl rfl ?_
  refine r_iconst (pc := 73) (1 : Int32) d_X12_bound_73 rfl ?_
  refine r_iadd (pc := 74) d_X12_bound_74 ?_
  refine r_leti (f := (oI Sh)) (fun x13 => ?_)
  refine r_istore (pc := 75) (ls' := [(5, .int x13), (4, .int x12), (3, .int x10), (0, .ref 102), (1, .int v1), (2, .int v2)]) d_X12_bound_75 (Nat.le_of_ble_eq_true rfl) rfl ?_
  refine r_pick [3, 4, 5, 2, 1, 0] (ls' := [(0, .ref 102), (1, .int v1), (2, .int v2), (3, .int x10), (4, .int x12), (5, .int x13)]) rfl ?_
  exact s_X12_bound_77 hst h0 hd k16 hk16 zFU  v1 v2 x10 x12 x13 D
theorem s_X12_bound_42 {X : zX} {Sh : zSh} {d : Nat} (hst : (zl X).stackTraces = false) (h0 : zSh0 Sh) (hd : 4 ≤ d) (k16 : Int32 → zD → Option (Int32 × zD)) (hk16 : ∀ (v1 : Int32) (D : zD) , Rn X m_X12_bound (d + 1) 16 [(0, .ref 102), (1, .int v1)] [] (Sh, D) ((oI Sh) (k16 v1 D))) : ∀ (n : Nat) (v1 : Int32) (v2 : Int32) (D : zD) , Rn X m_X12_bound (d + 1) 42 [(0, .ref 102), (1, .int v1), (2, .int v2)] [] (Sh, D) ((oI Sh) (fn_X12_bound_42 k16 n v1 v2 D)) := by
  intro n
  induction n with
  | zero => intro v1 v2 D; exact Rn_none rfl
  | succ n hk42 =>
    intro v1 v2 D
    rw [fn_X12_bound_42]
    refine r_iload_n (pc := 42) 1 d_X12_bound_42 rfl rfl ?_
    refine r_iload_n (pc := 43) 2 d_X12_bound_43 rfl rfl ?_
    refine r_ishr (pc := 44) d_X12_bound_44 ?_
    refine r_iconst (pc := 45) (1 : Int32) d_X12_bound_45 rfl ?_
    refine r_iand (pc := 46) d_X12_bound_46 ?_
    refine r_if_ne (f := (oI Sh)) (pc := 47) 56 d_X12_bound_47 (by decide) (fun c9 => ?_) (fun c9 => ?_)
    · refine r_pick [0, 1, 2] (ls' := [(0, .ref 102), (1, .int v1), (2, .int v2)]) rfl ?_
      exact s_X12_bound_56 hst h0 hd k16 hk16 v1 v2 D
    · refine r_iinc (pc := 50) ((v2 + (1 : Int32))) 2 (ls' := [(2, .int (v2 + (1 : Int32))), (0, .ref 102), (1, .int v1)]) d_X12_bound_50 rfl rfl (Nat.le_of_ble_eq_true rfl) rfl ?_
      refine r_goto (pc := 53) 42 d_X12_bound_53 (by decide) ?_
      refine r_pick [1, 2, 0] (ls' := [(0, .ref 102), (1, .int v1), (2, .int (v2 + (1 : Int32)))]) rfl ?_
      exact hk42 v1 (v2 + (1 : Int32)) D 
theorem s_X12_bound_16 {X : zX} {Sh : zSh} {d : Nat} (hst : (zl X).stackTraces = false) (h0 : zSh0 Sh) (hd : 4 ≤ d)  : ∀ (n : Nat) (v1 : Int32) (D : zD) , Rn X m_X12_bound (d + 1) 16 [(0, .ref 102), (1, .int v1)] [] (Sh, D) ((oI Sh) (fn_X12_bound_16  n v1 D)) := by
  intro n
  induction n with
  | zero => intro v1 D; exact Rn_none rfl
  | succ n hk16 =>
    intro v1 D
    rw [fn_X12_bound_16]
    refine r_iload_n (pc := 16) 1 d_X12_bound_16 rfl rfl ?_
    refine r_iconst (pc := 17) (1 : Int32) d_X12_bound_17 rfl ?_
    refine r_aload_n (pc := 18) 0 d_X12_bound_18 rfl rfl ?_
    refine q_gI (pc := 19) g_X12_224 (K_102 h0) rfl d_X12_bound_19 ?_
    refine r_ishl (pc := 22) d_X12_bound_22 ?_
    refine r_icmp_ge (f := (oI Sh)) (pc := 23) 165 d_X12_bound_23 (by decide) (fun c4 => ?_) (fun c4 => ?_)
    · refine r_aload_n (pc := 165) 0 d_X12_bound_165 rfl rfl ?_
      refine r_getR (pc := 166) g_X12_94 (K_102 h0) rfl (R_102_50 h0) d_X12_bound_166 ?_
      refine r_iconst (pc := 169) (1 : Int32) d_X12_bound_169 rfl ?_
      refine r_aload_n (pc := 170) 0 d_X12_bound_170 rfl rfl ?_
      refine q_gI (pc := 171) g_X12_224 (K_102 h0) rfl d_X12_bound_171 ?_
      refine r_ishl (pc := 174) d_X12_bound_174 ?_
      refine r_iconst (pc := 175) (1 : Int32) d_X12_bound_175 rfl ?_
      refine r_isub (pc := 176) d_X12_bound_176 ?_
      refine r_ck (f := (oI Sh)) rfl (fun hc5 => ?_)
      refine q_iald (pc := 177) (j := (((1 : Int32) <<< ((gI D 102 16) &&& 31)) - (1 : Int32)).toNatClampNeg) (K_200 h0) hc5 rfl d_X12_bound_177 ?_
      exact r_iret (pc := 178) rfl d_X12_bound_178
    · refine r_aload_n (pc := 26) 0 d_X12_bound_26 rfl rfl ?_
      refine r_getR (pc := 27) g_X12_94 (K_102 h0) rfl (R_102_50 h0) d_X12_bound_27 ?_
      refine r_iload_n (pc := 30) 1 d_X12_bound_30 rfl rfl ?_
      refine r_iconst (pc := 31) (0 : Int32) d_X12_bound_31 rfl ?_
      refine r_ck (f := (oI Sh)) rfl (fun hc6 => ?_)
      refine q_iast (pc := 32) (j := v1.toNatClampNeg) (K_200 h0) hc6 rfl  d_X12_bound_32 ?_
      refine r_letD (f := (oI Sh)) (fun D7 => ?_)
      refine r_iload_n (pc := 33) 1 d_X12_bound_33 rfl rfl ?_
      refine r_if_ne (f := (oI Sh)) (pc := 34) 40 d_X12_bound_34 (by decide) (fun c8 => ?_) (fun c8 => ?_)
      · refine r_iconst (pc := 40) (0 : Int32) d_X12_bound_40 rfl ?_
        refine r_istore_n (pc := 41) (ls' := [(2, .int (0 : Int32)), (0, .ref 102), (1, .int v1)]) d_X12_bound_41 rfl (Nat.le_of_ble_eq_true rfl) rfl ?_
        refine r_pick [1, 2, 0] (ls' := [(0, .ref 102), (1, .int v1), (2, .int (0 : Int32))]) rfl ?_
        exact s_X12_bound_42 hst h0 hd (fn_X12_bound_16  n) hk16 zFU  v1 (0 : Int32) D7
      · refine r_goto (pc := 37) 159 d_X12_bound_37 (by decide) ?_
        refine r_iinc (pc := 159) ((v1 + (1 : Int32))) 1 (ls' := [(1, .int (v1 + (1 : Int32))), (0, .ref 102)]) d_X12_bound_159 rfl rfl (Nat.le_of_ble_eq_true rfl) rfl ?_
        refine r_goto (pc := 162) 16 d_X12_bound_162 (by decide) ?_
        refine r_pick [1, 0] (ls' := [(0, .ref 102), (1, .int (v1 + (1 : Int32)))]) rfl ?_
        exact hk16 (v1 + (1 : Int32)) D7 
theorem s_X12_bound {X : zX} {Sh : zSh} {d : Nat} (hst : (zl X).stackTraces = false) (h0 : zSh0 Sh) (hd : 5 ≤ d)  {D : zD} : Sd X m_X12_bound d [.ref 102] (Sh, D) ((oI Sh) (fn_X12_bound D)) := by
  obtain ⟨d, rfl⟩ : ∃ e, d = e + 1 := ⟨d - 1, by omega⟩
  replace hd : 4 ≤ d := by omega
  refine z_body ck_X12_bound rfl (Nat.le_of_ble_eq_true rfl) rfl hst ?_
  rw [fn_X12_bound]
  show Rn X m_X12_bound (d + 1) 0 [(0, .ref 102)] [] (Sh, D) _
  refine r_aload_n (pc := 0) 0 d_X12_bound_0 rfl rfl ?_
  refine r_iconst (pc := 1) (0 : Int32) d_X12_bound_1 rfl ?_
  refine r_putI (pc := 2) p_X12_113 (K_102 h0) rfl (Or.inl rfl) d_X12_bound_2 ?_
  refine r_letD (f := (oI Sh)) (fun D1 => ?_)
  refine r_aload_n (pc := 5) 0 d_X12_bound_5 rfl rfl ?_
  refine q_cV (f := (oI Sh)) (av := [.ref 102]) (st := []) (z_runV ck_X12_layNow rfl ml_X12_311 ci_X12_layNow cv_X12_layNow (K_102 h0) (ci := 12) rfl rfl (Nat.le_of_ble_eq_true rfl) d_X12_bound_6) (s_X12_layNow hst h0 (by omega)) kp_I (fun D2 _ => ?_)
  refine r_aload_n (pc := 9) 0 d_X12_bound_9 rfl rfl ?_
  refine q_cI (f := (oI Sh)) (av := [.ref 102]) (st := []) (z_runV ck_X12_layPairs rfl ml_X12_314 ci_X12_layPairs cv_X12_layPairs (K_102 h0) (ci := 12) rfl rfl (Nat.le_of_ble_eq_true rfl) d_X12_bound_10) (s_X12_layPairs hst h0 (by omega)) kp_I (fun q3 _ => ?_)
  refine r_pop (pc := 13) d_X12_bound_13 rfl ?_
  refine r_iconst (pc := 14) (0 : Int32) d_X12_bound_14 rfl ?_
  refine r_istore_n (pc := 15) (ls' := [(1, .int (0 : Int32)), (0, .ref 102)]) d_X12_bound_15 rfl (Nat.le_of_ble_eq_true rfl) rfl ?_
  refine r_pick [1, 0] (ls' := [(0, .ref 102), (1, .int (0 : Int32))]) rfl ?_
  exact s_X12_bound_16 hst h0 hd zFU  (0 : Int32) q3.2
/-! CoveredSignsModel.steps -/
theorem d_X12_steps_0 : decode (yB m_X12_steps) 0 = .ok (.aload_n 0, 1) := by decide +kernel
theorem d_X12_steps_1 : decode (yB m_X12_steps) 1 = .ok (.iconst 0, 1) := by decide +kernel
theorem d_X12_steps_2 : decode (yB m_X12_steps) 2 = .ok (.putfield 113, 3) := by decide +kernel
theorem d_X12_steps_5 : decode (yB m_X12_steps) 5 = .ok (.aload_n 0, 1) := by decide +kernel
theorem d_X12_steps_6 : decode (yB m_X12_steps) 6 = .ok (.iload_n 1, 1) := by decide +kernel
theorem d_X12_steps_7 : decode (yB m_X12_steps) 7 = .ok (.iconst 0, 1) := by decide +kernel
theorem d_X12_steps_8 : decode (yB m_X12_steps) 8 = .ok (.iconst 1, 1) := by decide +kernel
theorem d_X12_steps_9 : decode (yB m_X12_steps) 9 = .ok (.invokestatic 147, 3) := by decide +kernel
theorem d_X12_steps_12 : decode (yB m_X12_steps) 12 = .ok (.ifCond .ne 7, 3) := by decide +kernel
theorem d_X12_steps_15 : decode (yB m_X12_steps) 15 = .ok (.iconst 1, 1) := by decide +kernel
theorem d_X12_steps_16 : decode (yB m_X12_steps) 16 = .ok (.goto 4, 3) := by decide +kernel
theorem d_X12_steps_19 : decode (yB m_X12_steps) 19 = .ok (.iconst 0, 1) := by decide +kernel
theorem d_X12_steps_20 : decode (yB m_X12_steps) 20 = .ok (.iconst 1, 1) := by decide +kernel
theorem d_X12_steps_21 : decode (yB m_X12_steps) 21 = .ok (.invokevirtual 214, 3) := by decide +kernel
theorem d_X12_steps_24 : decode (yB m_X12_steps) 24 = .ok (.ifCond .eq 5, 3) := by decide +kernel
theorem d_X12_steps_27 : decode (yB m_X12_steps) 27 = .ok (.iconst 0, 1) := by decide +kernel
theorem d_X12_steps_28 : decode (yB m_X12_steps) 28 = .ok (.ireturn, 1) := by decide +kernel
theorem d_X12_steps_29 : decode (yB m_X12_steps) 29 = .ok (.aload_n 0, 1) := by decide +kernel
theorem d_X12_steps_30 : decode (yB m_X12_steps) 30 = .ok (.invokevirtual 311, 3) := by decide +kernel
theorem d_X12_steps_33 : decode (yB m_X12_steps) 33 = .ok (.aload_n 0, 1) := by decide +kernel
theorem d_X12_steps_34 : decode (yB m_X12_steps) 34 = .ok (.invokevirtual 314, 3) := by decide +kernel
theorem d_X12_steps_37 : decode (yB m_X12_steps) 37 = .ok (.istore_n 2, 1) := by decide +kernel
theorem d_X12_steps_38 : decode (yB m_X12_steps) 38 = .ok (.iconst 0, 1) := by decide +kernel
theorem d_X12_steps_39 : decode (yB m_X12_steps) 39 = .ok (.istore_n 3, 1) := by decide +kernel
theorem d_X12_steps_40 : decode (yB m_X12_steps) 40 = .ok (.iconst 1, 1) := by decide +kernel
theorem d_X12_steps_41 : decode (yB m_X12_steps) 41 = .ok (.istore 4, 2) := by decide +kernel
theorem d_X12_steps_43 : decode (yB m_X12_steps) 43 = .ok (.iload_n 2, 1) := by decide +kernel
theorem d_X12_steps_44 : decode (yB m_X12_steps) 44 = .ok (.ifCond .le 148, 3) := by decide +kernel
theorem d_X12_steps_47 : decode (yB m_X12_steps) 47 = .ok (.iload_n 3, 1) := by decide +kernel
theorem d_X12_steps_48 : decode (yB m_X12_steps) 48 = .ok (.bipush 30, 2) := by decide +kernel
theorem d_X12_steps_50 : decode (yB m_X12_steps) 50 = .ok (.if_icmp .ge 142, 3) := by decide +kernel
theorem d_X12_steps_53 : decode (yB m_X12_steps) 53 = .ok (.iload 4, 2) := by decide +kernel
theorem d_X12_steps_55 : decode (yB m_X12_steps) 55 = .ok (.ifCond .eq 137, 3) := by decide +kernel
theorem d_X12_steps_58 : decode (yB m_X12_steps) 58 = .ok (.iconst (-1), 1) := by decide +kernel
theorem d_X12_steps_59 : decode (yB m_X12_steps) 59 = .ok (.istore 5, 2) := by decide +kernel
theorem d_X12_steps_61 : decode (yB m_X12_steps) 61 = .ok (.iload_n 2, 1) := by decide +kernel
theorem d_X12_steps_62 : decode (yB m_X12_steps) 62 = .ok (.istore 6, 2) := by decide +kernel
theorem d_X12_steps_64 : decode (yB m_X12_steps) 64 = .ok (.iconst 0, 1) := by decide +kernel
theorem d_X12_steps_65 : decode (yB m_X12_steps) 65 = .ok (.istore 7, 2) := by decide +kernel
theorem d_X12_steps_67 : decode (yB m_X12_steps) 67 = .ok (.iload 7, 2) := by decide +kernel
theorem d_X12_steps_69 : decode (yB m_X12_steps) 69 = .ok (.aload_n 0, 1) := by decide +kernel
theorem d_X12_steps_70 : decode (yB m_X12_steps) 70 = .ok (.getfield 224, 3) := by decide +kernel
theorem d_X12_steps_73 : decode (yB m_X12_steps) 73 = .ok (.aload_n 0, 1) := by decide +kernel
theorem d_X12_steps_74 : decode (yB m_X12_steps) 74 = .ok (.invokevirtual 242, 3) := by decide +kernel
theorem d_X12_steps_77 : decode (yB m_X12_steps) 77 = .ok (.imul, 1) := by decide +kernel
theorem d_X12_steps_78 : decode (yB m_X12_steps) 78 = .ok (.if_icmp .ge 67, 3) := by decide +kernel
theorem d_X12_steps_81 : decode (yB m_X12_steps) 81 = .ok (.aload_n 0, 1) := by decide +kernel
theorem d_X12_steps_82 : decode (yB m_X12_steps) 82 = .ok (.iload 7, 2) := by decide +kernel
theorem d_X12_steps_84 : decode (yB m_X12_steps) 84 = .ok (.invokevirtual 350, 3) := by decide +kernel
theorem d_X12_steps_87 : decode (yB m_X12_steps) 87 = .ok (.aload_n 0, 1) := by decide +kernel
theorem d_X12_steps_88 : decode (yB m_X12_steps) 88 = .ok (.iload 7, 2) := by decide +kernel
theorem d_X12_steps_90 : decode (yB m_X12_steps) 90 = .ok (.aload_n 0, 1) := by decide +kernel
theorem d_X12_steps_91 : decode (yB m_X12_steps) 91 = .ok (.invokevirtual 242, 3) := by decide +kernel
theorem d_X12_steps_94 : decode (yB m_X12_steps) 94 = .ok (.idiv, 1) := by decide +kernel
theorem d_X12_steps_95 : decode (yB m_X12_steps) 95 = .ok (.invokevirtual 305, 3) := by decide +kernel
theorem d_X12_steps_98 : decode (yB m_X12_steps) 98 = .ok (.aload_n 0, 1) := by decide +kernel
theorem d_X12_steps_99 : decode (yB m_X12_steps) 99 = .ok (.invokevirtual 308, 3) := by decide +kernel
theorem d_X12_steps_102 : decode (yB m_X12_steps) 102 = .ok (.istore 8, 2) := by decide +kernel
theorem d_X12_steps_104 : decode (yB m_X12_steps) 104 = .ok (.aload_n 0, 1) := by decide +kernel
theorem d_X12_steps_105 : decode (yB m_X12_steps) 105 = .ok (.iload 7, 2) := by decide +kernel
theorem d_X12_steps_107 : decode (yB m_X12_steps) 107 = .ok (.invokevirtual 350, 3) := by decide +kernel
theorem d_X12_steps_110 : decode (yB m_X12_steps) 110 = .ok (.aload_n 0, 1) := by decide +kernel
theorem d_X12_steps_111 : decode (yB m_X12_steps) 111 = .ok (.iload 7, 2) := by decide +kernel
theorem d_X12_steps_113 : decode (yB m_X12_steps) 113 = .ok (.aload_n 0, 1) := by decide +kernel
theorem d_X12_steps_114 : decode (yB m_X12_steps) 114 = .ok (.invokevirtual 242, 3) := by decide +kernel
theorem d_X12_steps_117 : decode (yB m_X12_steps) 117 = .ok (.idiv, 1) := by decide +kernel
theorem d_X12_steps_118 : decode (yB m_X12_steps) 118 = .ok (.invokevirtual 305, 3) := by decide +kernel
theorem d_X12_steps_121 : decode (yB m_X12_steps) 121 = .ok (.iload 8, 2) := by decide +kernel
theorem d_X12_steps_123 : decode (yB m_X12_steps) 123 = .ok (.iload 6, 2) := by decide +kernel
theorem d_X12_steps_125 : decode (yB m_X12_steps) 125 = .ok (.if_icmp .lt 6, 3) := by decide +kernel
theorem d_X12_steps_128 : decode (yB m_X12_steps) 128 = .ok (.goto 11, 3) := by decide +kernel
theorem d_X12_steps_131 : decode (yB m_X12_steps) 131 = .ok (.iload 7, 2) := by decide +kernel
theorem d_X12_steps_133 : decode (yB m_X12_steps) 133 = .ok (.istore 5, 2) := by decide +kernel
theorem d_X12_steps_135 : decode (yB m_X12_steps) 135 = .ok (.iload 8, 2) := by decide +kernel
theorem d_X12_steps_137 : decode (yB m_X12_steps) 137 = .ok (.istore 6, 2) := by decide +kernel
theorem d_X12_steps_139 : decode (yB m_X12_steps) 139 = .ok (.iinc 7 1, 3) := by decide +kernel
theorem d_X12_steps_142 : decode (yB m_X12_steps) 142 = .ok (.goto (-75), 3) := by decide +kernel
theorem d_X12_steps_145 : decode (yB m_X12_steps) 145 = .ok (.iload 5, 2) := by decide +kernel
theorem d_X12_steps_147 : decode (yB m_X12_steps) 147 = .ok (.iconst (-1), 1) := by decide +kernel
theorem d_X12_steps_148 : decode (yB m_X12_steps) 148 = .ok (.if_icmp .eq 7, 3) := by decide +kernel
theorem d_X12_steps_151 : decode (yB m_X12_steps) 151 = .ok (.iconst 1, 1) := by decide +kernel
theorem d_X12_steps_152 : decode (yB m_X12_steps) 152 = .ok (.goto 4, 3) := by decide +kernel
theorem d_X12_steps_155 : decode (yB m_X12_steps) 155 = .ok (.iconst 0, 1) := by decide +kernel
theorem d_X12_steps_156 : decode (yB m_X12_steps) 156 = .ok (.istore 4, 2) := by decide +kernel
theorem d_X12_steps_158 : decode (yB m_X12_steps) 158 = .ok (.iload 4, 2) := by decide +kernel
theorem d_X12_steps_160 : decode (yB m_X12_steps) 160 = .ok (.ifCond .ne 6, 3) := by decide +kernel
theorem d_X12_steps_163 : decode (yB m_X12_steps) 163 = .ok (.goto (-120), 3) := by decide +kernel
theorem d_X12_steps_166 : decode (yB m_X12_steps) 166 = .ok (.aload_n 0, 1) := by decide +kernel
theorem d_X12_steps_167 : decode (yB m_X12_steps) 167 = .ok (.iload 5, 2) := by decide +kernel
theorem d_X12_steps_169 : decode (yB m_X12_steps) 169 = .ok (.invokevirtual 350, 3) := by decide +kernel
theorem d_X12_steps_172 : decode (yB m_X12_steps) 172 = .ok (.aload_n 0, 1) := by decide +kernel
theorem d_X12_steps_173 : decode (yB m_X12_steps) 173 = .ok (.iload 5, 2) := by decide +kernel
theorem d_X12_steps_175 : decode (yB m_X12_steps) 175 = .ok (.aload_n 0, 1) := by decide +kernel
theorem d_X12_steps_176 : decode (yB m_X12_steps) 176 = .ok (.invokevirtual 242, 3) := by decide +kernel
theorem d_X12_steps_179 : decode (yB m_X12_steps) 179 = .ok (.idiv, 1) := by decide +kernel
theorem d_X12_steps_180 : decode (yB m_X12_steps) 180 = .ok (.invokevirtual 305, 3) := by decide +kernel
theorem d_X12_steps_183 : decode (yB m_X12_steps) 183 = .ok (.iload 6, 2) := by decide +kernel
theorem d_X12_steps_185 : decode (yB m_X12_steps) 185 = .ok (.istore_n 2, 1) := by decide +kernel
theorem d_X12_steps_186 : decode (yB m_X12_steps) 186 = .ok (.iinc 3 1, 3) := by decide +kernel
theorem d_X12_steps_189 : decode (yB m_X12_steps) 189 = .ok (.goto (-146), 3) := by decide +kernel
theorem d_X12_steps_192 : decode (yB m_X12_steps) 192 = .ok (.iload_n 1, 1) := by decide +kernel
theorem d_X12_steps_193 : decode (yB m_X12_steps) 193 = .ok (.ifCond .ne 7, 3) := by decide +kernel
theorem d_X12_steps_196 : decode (yB m_X12_steps) 196 = .ok (.iload_n 3, 1) := by decide +kernel
theorem d_X12_steps_197 : decode (yB m_X12_steps) 197 = .ok (.goto 4, 3) := by decide +kernel
theorem d_X12_steps_200 : decode (yB m_X12_steps) 200 = .ok (.iload_n 2, 1) := by decide +kernel
theorem d_X12_steps_201 : decode (yB m_X12_steps) 201 = .ok (.ireturn, 1) := by decide +kernel
def fn_X12_steps_192 (v1 : Int32) (v2 : Int32) (v3 : Int32) (D : zD) : Option (Int32 × zD) := (if v1 = 0 then ((some (v3, D))) else ((some (v2, D))))
def fn_X12_steps_156 (v1 : Int32) (k43 : Int32 → Int32 → Int32 → zD → Option (Int32 × zD)) (v2 : Int32) (v3 : Int32) (v5 : Int32) (v6 : Int32) (w0 : Int32) (D : zD) : Option (Int32 × zD) := (if w0 = 0 then ((k43 v2 v3 w0 D)) else ((fn_X12_flips v5 D).bind fun D16 => (fn_X12_cells D16).bind fun x17 => zdv x17 <| (fn_X12_layPairsOf (v5 / x17) D16).bind fun D18 => (k43 v6 (v3 + (1 : Int32)) w0 D18)))
def fn_X12_steps_145 (v1 : Int32) (k43 : Int32 → Int32 → Int32 → zD → Option (Int32 × zD)) (v2 : Int32) (v3 : Int32) (v5 : Int32) (v6 : Int32) (D : zD) : Option (Int32 × zD) := (if v5 = (-1 : Int32) then ((fn_X12_steps_156 v1 k43 v2 v3 v5 v6 (0 : Int32) D)) else ((fn_X12_steps_156 v1 k43 v2 v3 v5 v6 (1 : Int32) D)))
def fn_X12_steps_67 (v1 : Int32) (k43 : Int32 → Int32 → Int32 → zD → Option (Int32 × zD)) : Nat → Int32 → Int32 → Int32 → Int32 → Int32 → zD → Option (Int32 × zD)
  | 0, _, _, _, _, _, _ => none
  | n + 1, v2, v3, v5, v6, v7, D => (fn_X12_cells D).bind fun x12 => (if ((gI D 102 16) * x12) ≤ v7 then ((fn_X12_steps_145 v1 k43 v2 v3 v5 v6 D)) else ((fn_X12_flips v7 D).bind fun D19 => (fn_X12_cells D19).bind fun x20 => zdv x20 <| (fn_X12_layPairsOf (v7 / x20) D19).bind fun D21 => (fn_X12_pairs D21).bind fun x22 => (fn_X12_flips v7 D21).bind fun D23 => (fn_X12_cells D23).bind fun x24 => zdv x24 <| (fn_X12_layPairsOf (v7 / x24) D23).bind fun D25 => (if x22 < v6 then (((fn_X12_steps_67 v1 k43 n) v2 v3 v7 x22 (v7 + (1 : Int32)) D25)) else (((fn_X12_steps_67 v1 k43 n) v2 v3 v5 v6 (v7 + (1 : Int32)) D25)))))
def fn_X12_steps_43 (v1 : Int32) : Nat → Int32 → Int32 → Int32 → zD → Option (Int32 × zD)
  | 0, _, _, _, _ => none
  | n + 1, v2, v3, v4, D => (if v2 ≤ 0 then ((fn_X12_steps_192 v1 v2 v3 D)) else ((if (30 : Int32) ≤ v3 then ((fn_X12_steps_192 v1 v2 v3 D)) else ((if v4 = 0 then ((fn_X12_steps_192 v1 v2 v3 D)) else ((fn_X12_steps_67 v1 (fn_X12_steps_43 v1 n) zFU v2 v3 (-1 : Int32) v2 (0 : Int32) D)))))))
def fn_X12_steps_20 (v1 : Int32) (w1 : Int32) (D : zD) : Option (Int32 × zD) := (fn_X12_bad w1 (1 : Int32) D).bind fun q4 => (if q4.1 = 0 then ((fn_X12_layNow q4.2).bind fun D6 => (fn_X12_layPairs D6).bind fun q7 => (fn_X12_steps_43 v1 zFU q7.1 (0 : Int32) (1 : Int32) q7.2)) else ((some ((0 : Int32), q4.2))))
def fn_X12_steps (v1 : Int32) (D : zD) : Option (Int32 × zD) := zlet (sI D 102 0 (0 : Int32)) fun D1 => (fn_X12_in v1 (0 : Int32) (1 : Int32)).bind fun x2 => (if x2 = 0 then ((fn_X12_steps_20 v1 (1 : Int32) D1)) else ((fn_X12_steps_20 v1 (0 : Int32) D1)))
theorem s_X12_steps_192 {X : zX} {Sh : zSh} {d : Nat} (hst : (zl X).stackTraces = false) (h0 : zSh0 Sh) (hd : 4 ≤ d) {v1 : Int32} (v2 : Int32) (v3 : Int32) (D : zD)  : Rn X m_X12_steps (d + 1) 192 [(1, .int v1), (2, .int v2), (3, .int v3)] [] (Sh, D) ((oI Sh) (fn_X12_steps_192 v1 v2 v3 D)) := by
  rw [fn_X12_steps_192]
  refine r_iload_n (pc := 192) 0 d_X12_steps_192 rfl rfl ?_
  refine r_if_ne (f := (oI Sh)) (pc := 193) 200 d_X12_steps_193 (by decide) (fun c9 => ?_) (fun c9 => ?_)
  · refine r_iload_n (pc := 200) 1 d_X12_steps_200 rfl rfl ?_
    exact r_iret (pc := 201) rfl d_X12_steps_201
  · refine r_iload_n (pc := 196) 2 d_X12_steps_196 rfl rfl ?_
    refine r_goto (pc := 197) 201 d_X12_steps_197 (by decide) ?_
    exact r_iret (pc := 201) rfl d_X12_steps_201
theorem s_X12_steps_156 {X : zX} {Sh : zSh} {d : Nat} (hst : (zl X).stackTraces = false) (h0 : zSh0 Sh) (hd : 4 ≤ d) {v1 : Int32} (k43 : Int32 → Int32 → Int32 → zD → Option (Int32 × zD)) (hk43 : ∀ (v2 : Int32) (v3 : Int32) (v4 : Int32) (D : zD) , Rn X m_X12_steps (d + 1) 43 [(0, .ref 102), (1, .int v1), (2, .int v2), (3, .int v3), (4, .int v4)] [] (Sh, D) ((oI Sh) (k43 v2 v3 v4 D))) (v2 : Int32) (v3 : Int32) (v5 : Int32) (v6 : Int32) (w0 : Int32) (D : zD)  : Rn X m_X12_steps (d + 1) 156 [(0, .ref 102), (1, .int v1), (2, .int v2), (3, .int v3), (5, .int v5), (6, .int v6)] [.int w0] (Sh, D) ((oI Sh) (fn_X12_steps_156 v1 k43 v2 v3 v5 v6 w0 D)) := by
  rw [fn_X12_steps_156]
  refine r_istore (pc := 156) (ls' := [(4, .int w0), (0, .ref 102), (1, .int v1), (2, .int v2), (3, .int v3), (5, .int v5), (6, .int v6)]) d_X12_steps_156 (Nat.le_of_ble_eq_true rfl) rfl ?_
  refine r_iload (pc := 158) 0 d_X12_steps_158 rfl ?_
  refine r_if_ne (f := (oI Sh)) (pc := 160) 166 d_X12_steps_160 (by decide) (fun c15 => ?_) (fun c15 => ?_)
  · refine r_aload_n (pc := 166) 1 d_X12_steps_166 rfl rfl ?_
    refine r_iload (pc := 167) 5 d_X12_steps_167 rfl ?_
    refine q_cV (f := (oI Sh)) (av := [.ref 102, .int v5]) (st := []) (z_runV ck_X12_flips rfl ml_X12_350 ci_X12_flips cv_X12_flips (K_102 h0) (ci := 12) rfl rfl (Nat.le_of_ble_eq_true rfl) d_X12_steps_169) (s_X12_flips hst h0 (by omega)) kp_I (fun D16 _ => ?_)
    refine r_aload_n (pc := 172) 1 d_X12_steps_172 rfl rfl ?_
    refine r_iload (pc := 173) 5 d_X12_steps_173 rfl ?_
    refine r_aload_n (pc := 175) 1 d_X12_steps_175 rfl rfl ?_
    refine q_cP (f := (oI Sh)) (av := [.ref 102]) (st := [.int v5, .ref 102]) (z_runV ck_X12_cells rfl ml_X12_242 ci_X12_cells cv_X12_cells (K_102 h0) (ci := 12) rfl rfl (Nat.le_of_ble_eq_true rfl) d_X12_steps_176) (s_X12_cells hst h0 (by omega)) kp_I (fun x17 _ => ?_)
    refine r_idiv (f := (oI Sh)) (pc := 179) d_X12_steps_179 rfl ?_
    refine q_cV (f := (oI Sh)) (av := [.ref 102, .int (v5 / x17)]) (st := []) (z_runV ck_X12_layPairsOf rfl ml_X12_305 ci_X12_layPairsOf cv_X12_layPairsOf (K_102 h0) (ci := 12) rfl rfl (Nat.le_of_ble_eq_true rfl) d_X12_steps_180) (s_X12_layPairsOf hst h0 (by omega)) kp_I (fun D18 _ => ?_)
    refine r_iload (pc := 183) 6 d_X12_steps_183 rfl ?_
    refine r_istore_n (pc := 185) (ls' := [(2, .int v6), (4, .int w0), (0, .ref 102), (1, .int v1), (3, .int v3), (5, .int v5), (6, .int v6)]) d_X12_steps_185 rfl (Nat.le_of_ble_eq_true rfl) rfl ?_
    refine r_iinc (pc := 186) ((v3 + (1 : Int32))) 4 (ls' := [(3, .int (v3 + (1 : Int32))), (2, .int v6), (4, .int w0), (0, .ref 102), (1, .int v1), (5, .int v5), (6, .int v6)]) d_X12_steps_186 rfl rfl (Nat.le_of_ble_eq_true rfl) rfl ?_
    refine r_goto (pc := 189) 43 d_X12_steps_189 (by decide) ?_
    refine r_pick [3, 4, 1, 0, 2] (ls' := [(0, .ref 102), (1, .int v1), (2, .int v6), (3, .int (v3 + (1 : Int32))), (4, .int w0)]) rfl ?_
    exact hk43 v6 (v3 + (1 : Int32)) w0 D18 
  · refine r_goto (pc := 163) 43 d_X12_steps_163 (by decide) ?_
    refine r_pick [1, 2, 3, 4, 0] (ls' := [(0, .ref 102), (1, .int v1), (2, .int v2), (3, .int v3), (4, .int w0)]) rfl ?_
    exact hk43 v2 v3 w0 D 
theorem s_X12_steps_145 {X : zX} {Sh : zSh} {d : Nat} (hst : (zl X).stackTraces = false) (h0 : zSh0 Sh) (hd : 4 ≤ d) {v1 : Int32} (k43 : Int32 → Int32 → Int32 → zD → Option (Int32 × zD)) (hk43 : ∀ (v2 : Int32) (v3 : Int32) (v4 : Int32) (D : zD) , Rn X m_X12_steps (d + 1) 43 [(0, .ref 102), (1, .int v1), (2, .int v2), (3, .int v3), (4, .int v4)] [] (Sh, D) ((oI Sh) (k43 v2 v3 v4 D))) (v2 : Int32) (v3 : Int32) (v5 : Int32) (v6 : Int32) (D : zD)  : Rn X m_X12_steps (d + 1) 145 [(0, .ref 102), (1, .int v1), (2, .int v2), (3, .int v3), (5, .int v5), (6, .int v6)] [] (Sh, D) ((oI Sh) (fn_X12_steps_145 v1 k43 v2 v3 v5 v6 D)) := by
  rw [fn_X12_steps_145]
  refine r_iload (pc := 145) 4 d_X12_steps_145 rfl ?_
  refine r_iconst (pc := 147) (-1 : Int32) d_X12_steps_147 rfl ?_
  refine r_icmp_eq (f := (oI Sh)) (pc := 148) 155 d_X12_steps_148 (by decide) (fun c14 => ?_) (fun c14 => ?_)
  · refine r_iconst (pc := 155) (0 : Int32) d_X12_steps_155 rfl ?_
    refine r_pick [0, 1, 2, 3, 4, 5] (ls' := [(0, .ref 102), (1, .int v1), (2, .int v2), (3, .int v3), (5, .int v5), (6, .int v6)]) rfl ?_
    exact s_X12_steps_156 hst h0 hd k43 hk43 v2 v3 v5 v6 (0 : Int32) D
  · refine r_iconst (pc := 151) (1 : Int32) d_X12_steps_151 rfl ?_
    refine r_goto (pc := 152) 156 d_X12_steps_152 (by decide) ?_
    refine r_pick [0, 1, 2, 3, 4, 5] (ls' := [(0, .ref 102), (1, .int v1), (2, .int v2), (3, .int v3), (5, .int v5), (6, .int v6)]) rfl ?_
    exact s_X12_steps_156 hst h0 hd k43 hk43 v2 v3 v5 v6 (1 : Int32) D
theorem s_X12_steps_67 {X : zX} {Sh : zSh} {d : Nat} (hst : (zl X).stackTraces = false) (h0 : zSh0 Sh) (hd : 4 ≤ d) {v1 : Int32} (k43 : Int32 → Int32 → Int32 → zD → Option (Int32 × zD)) (hk43 : ∀ (v2 : Int32) (v3 : Int32) (v4 : Int32) (D : zD) , Rn X m_X12_steps (d + 1) 43 [(0, .ref 102), (1, .int v1), (2, .int v2), (3, .int v3), (4, .int v4)] [] (Sh, D) ((oI Sh) (k43 v2 v3 v4 D))) : ∀ (n : Nat) (v2 : Int32) (v3 : Int32) (v5 : Int32) (v6 : Int32) (v7 : Int32) (D : zD) , Rn X m_X12_steps (d + 1) 67 [(0, .ref 102), (1, .int v1), (2, .int v2), (3, .int v3), (5, .int v5), (6, .int v6), (7, .int v7)] [] (Sh, D) ((oI Sh) (fn_X12_steps_67 v1 k43 n v2 v3 v5 v6 v7 D)) := by
  intro n
  induction n with
  | zero => intro v2 v3 v5 v6 v7 D; exact Rn_none rfl
  | succ n hk67 =>
    intro v2 v3 v5 v6 v7 D
    rw [fn_X12_steps_67]
    refine r_iload (pc := 67) 6 d_X12_steps_67 rfl ?_
    refine r_aload_n (pc := 69) 0 d_X12_steps_69 rfl rfl ?_
    refine q_gI (pc := 70) g_X12_224 (K_102 h0) rfl d_X12_steps_70 ?_
    refine r_aload_n (pc := 73) 0 d_X12_steps_73 rfl rfl ?_
    refine q_cP (f := (oI Sh)) (av := [.ref 102]) (st := [.int (gI D 102 16), .int v7]) (z_runV ck_X12_cells rfl ml_X12_242 ci_X12_cells cv_X12_cells (K_102 h0) (ci := 12) rfl rfl (Nat.le_of_ble_eq_true rfl) d_X12_steps_74) (s_X12_cells hst h0 (by omega)) kp_I (fun x12 _ => ?_)
    refine r_imul (pc := 77) d_X12_steps_77 ?_
    refine r_icmp_ge (f := (oI Sh)) (pc := 78) 145 d_X12_steps_78 (by decide) (fun c13 => ?_) (fun c13 => ?_)
    · refine r_pick [0, 1, 2, 3, 4, 5] (ls' := [(0, .ref 102), (1, .int v1), (2, .int v2), (3, .int v3), (5, .int v5), (6, .int v6)]) rfl ?_
      exact s_X12_steps_145 hst h0 hd k43 hk43 v2 v3 v5 v6 D
    · refine r_aload_n (pc := 81) 0 d_X12_steps_81 rfl rfl ?_
      refine r_iload (pc := 82) 6 d_X12_steps_82 rfl ?_
      refine q_cV (f := (oI Sh)) (av := [.ref 102, .int v7]) (st := []) (z_runV ck_X12_flips rfl ml_X12_350 ci_X12_flips cv_X12_flips (K_102 h0) (ci := 12) rfl rfl (Nat.le_of_ble_eq_true rfl) d_X12_steps_84) (s_X12_flips hst h0 (by omega)) kp_I (fun D19 _ => ?_)
      refine r_aload_n (pc := 87) 0 d_X12_steps_87 rfl rfl ?_
      refine r_iload (pc := 88) 6 d_X12_steps_88 rfl ?_
      refine r_aload_n (pc := 90) 0 d_X12_steps_90 rfl rfl ?_
      refine q_cP (f := (oI Sh)) (av := [.ref 102]) (st := [.int v7, .ref 102]) (z_runV ck_X12_cells rfl ml_X12_242 ci_X12_cells cv_X12_cells (K_102 h0) (ci := 12) rfl rfl (Nat.le_of_ble_eq_true rfl) d_X12_steps_91) (s_X12_cells hst h0 (by omega)) kp_I (fun x20 _ => ?_)
      refine r_idiv (f := (oI Sh)) (pc := 94) d_X12_steps_94 rfl ?_
      refine q_cV (f := (oI Sh)) (av := [.ref 102, .int (v7 / x20)]) (st := []) (z_runV ck_X12_layPairsOf rfl ml_X12_305 ci_X12_layPairsOf cv_X12_layPairsOf (K_102 h0) (ci := 12) rfl rfl (Nat.le_of_ble_eq_true rfl) d_X12_steps_95) (s_X12_layPairsOf hst h0 (by omega)) kp_I (fun D21 _ => ?_)
      refine r_aload_n (pc := 98) 0 d_X12_steps_98 rfl rfl ?_
      refine q_cP (f := (oI Sh)) (av := [.ref 102]) (st := []) (z_runV ck_X12_pairs rfl ml_X12_308 ci_X12_pairs cv_X12_pairs (K_102 h0) (ci := 12) rfl rfl (Nat.le_of_ble_eq_true rfl) d_X12_steps_99) (s_X12_pairs hst h0 (by omega)) kp_I (fun x22 _ => ?_)
      refine r_istore (pc := 102) (ls' := [(8, .int x22), (0, .ref 102), (1, .int v1), (2, .int v2), (3, .int v3), (5, .int v5), (6, .int v6), (7, .int v7)]) d_X12_steps_102 (Nat.le_of_ble_eq_true rfl) rfl ?_
      refine r_aload_n (pc := 104) 1 d_X12_steps_104 rfl rfl ?_
      refine r_iload (pc := 105) 7 d_X12_steps_105 rfl ?_
      refine q_cV (f := (oI Sh)) (av := [.ref 102, .int v7]) (st := []) (z_runV ck_X12_flips rfl ml_X12_350 ci_X12_flips cv_X12_flips (K_102 h0) (ci := 12) rfl rfl (Nat.le_of_ble_eq_true rfl) d_X12_steps_107) (s_X12_flips hst h0 (by omega)) kp_I (fun D23 _ => ?_)
      refine r_aload_n (pc := 110) 1 d_X12_steps_110 rfl rfl ?_
      refine r_iload (pc := 111) 7 d_X12_steps_111 rfl ?_
      refine r_aload_n (pc := 113) 1 d_X12_steps_113 rfl rfl ?_
      refine q_cP (f := (oI Sh)) (av := [.ref 102]) (st := [.int v7, .ref 102]) (z_runV ck_X12_cells rfl ml_X12_242 ci_X12_cells cv_X12_cells (K_102 h0) (ci := 12) rfl rfl (Nat.le_of_ble_eq_true rfl) d_X12_steps_114) (s_X12_cells hst h0 (by omega)) kp_I (fun x24 _ => ?_)
      refine r_idiv (f := (oI Sh)) (pc := 117) d_X12_steps_117 rfl ?_
      refine q_cV (f := (oI Sh)) (av := [.ref 102, .int (v7 / x24)]) (st := []) (z_runV ck_X12_layPairsOf rfl ml_X12_305 ci_X12_layPairsOf cv_X12_layPairsOf (K_102 h0) (ci := 12) rfl rfl (Nat.le_of_ble_eq_true rfl) d_X12_steps_118) (s_X12_layPairsOf hst h0 (by omega)) kp_I (fun D25 _ => ?_)
      refine r_iload (pc := 121) 0 d_X12_steps_121 rfl ?_
      refine r_iload (pc := 123) 6 d_X12_steps_123 rfl ?_
      refine r_icmp_lt (f := (oI Sh)) (pc := 125) 131 d_X12_steps_125 (by decide) (fun c26 => ?_) (fun c26 => ?_)
      · refine r_iload (pc := 131) 7 d_X12_steps_131 rfl ?_
        refine r_istore (pc := 133) (ls' := [(5, .int v7), (8, .int x22), (0, .ref 102), (1, .int v1), (2, .int v2), (3, .int v3), (6, .int v6), (7, .int v7)]) d_X12_steps_133 (Nat.le_of_ble_eq_true rfl) rfl ?_
        refine r_iload (pc := 135) 1 d_X12_steps_135 rfl ?_
        refine r_istore (pc := 137) (ls' := [(6, .int x22), (5, .int v7), (8, .int x22), (0, .ref 102), (1, .int v1), (2, .int v2), (3, .int v3), (7, .int v7)]) d_X12_steps_137 (Nat.le_of_ble_eq_true rfl) rfl ?_
        refine r_iinc (pc := 139) ((v7 + (1 : Int32))) 7 (ls' := [(7, .int (v7 + (1 : Int32))), (6, .int x22), (5, .int v7), (8, .int x22), (0, .ref 102), (1, .int v1), (2, .int v2), (3, .int v3)]) d_X12_steps_139 rfl rfl (Nat.le_of_ble_eq_true rfl) rfl ?_
        refine r_goto (pc := 142) 67 d_X12_steps_142 (by decide) ?_
        refine r_pick [4, 5, 6, 7, 2, 1, 0] (ls' := [(0, .ref 102), (1, .int v1), (2, .int v2), (3, .int v3), (5, .int v7), (6, .int x22), (7, .int (v7 + (1 : Int32)))]) rfl ?_
        exact hk67 v2 v3 v7 x22 (v7 + (1 : Int32)) D25 
      · refine r_goto (pc := 128) 139 d_X12_steps_128 (by decide) ?_
        refine r_iinc (pc := 139) ((v7 + (1 : Int32))) 7 (ls' := [(7, .int (v7 + (1 : Int32))), (8, .int x22), (0, .ref 102), (1, .int v1), (2, .int v2), (3, .int v3), (5, .int v5), (6, .int v6)]) d_X12_steps_139 rfl rfl (Nat.le_of_ble_eq_true rfl) rfl ?_
        refine r_goto (pc := 142) 67 d_X12_steps_142 (by decide) ?_
        refine r_pick [2, 3, 4, 5, 6, 7, 0] (ls' := [(0, .ref 102), (1, .int v1), (2, .int v2), (3, .int v3), (5, .int v5), (6, .int v6), (7, .int (v7 + (1 : Int32)))]) rfl ?_
        exact hk67 v2 v3 v5 v6 (v7 + (1 : Int32)) D25 
theorem s_X12_steps_43 {X : zX} {Sh : zSh} {d : Nat} (hst : (zl X).stackTraces = false) (h0 : zSh0 Sh) (hd : 4 ≤ d) {v1 : Int32} : ∀ (n : Nat) (v2 : Int32) (v3 : Int32) (v4 : Int32) (D : zD) , Rn X m_X12_steps (d + 1) 43 [(0, .ref 102), (1, .int v1), (2, .int v2), (3, .int v3), (4, .int v4)] [] (Sh, D) ((oI Sh) (fn_X12_steps_43 v1 n v2 v3 v4 D)) := by
  intro n
  induction n with
  | zero => intro v2 v3 v4 D; exact Rn_none rfl
  | succ n hk43 =>
    intro v2 v3 v4 D
    rw [fn_X12_steps_43]
    refine r_iload_n (pc := 43) 2 d_X12_steps_43 rfl rfl ?_
    refine r_if_le (f := (oI Sh)) (pc := 44) 192 d_X12_steps_44 (by decide) (fun c8 => ?_) (fun c8 => ?_)
    · refine r_pick [1, 2, 3] (ls' := [(1, .int v1), (2, .int v2), (3, .int v3)]) rfl ?_
      exact s_X12_steps_192 hst h0 hd v2 v3 D
    · refine r_iload_n (pc := 47) 3 d_X12_steps_47 rfl rfl ?_
      refine r_bipush (pc := 48) (30 : Int32) d_X12_steps_48 rfl ?_
      refine r_icmp_ge (f := (oI Sh)) (pc := 50) 192 d_X12_steps_50 (by decide) (fun c10 => ?_) (fun c10 => ?_)
      · refine r_pick [1, 2, 3] (ls' := [(1, .int v1), (2, .int v2), (3, .int v3)]) rfl ?_
        exact s_X12_steps_192 hst h0 hd v2 v3 D
      · refine r_iload (pc := 53) 4 d_X12_steps_53 rfl ?_
        refine r_if_eq (f := (oI Sh)) (pc := 55) 192 d_X12_steps_55 (by decide) (fun c11 => ?_) (fun c11 => ?_)
        · refine r_pick [1, 2, 3] (ls' := [(1, .int v1), (2, .int v2), (3, .int v3)]) rfl ?_
          exact s_X12_steps_192 hst h0 hd v2 v3 D
        · refine r_iconst (pc := 58) (-1 : Int32) d_X12_steps_58 rfl ?_
          refine r_istore (pc := 59) (ls' := [(5, .int (-1 : Int32)), (0, .ref 102), (1, .int v1), (2, .int v2), (3, .int v3), (4, .int v4)]) d_X12_steps_59 (Nat.le_of_ble_eq_true rfl) rfl ?_
          refine r_iload_n (pc := 61) 3 d_X12_steps_61 rfl rfl ?_
          refine r_istore (pc := 62) (ls' := [(6, .int v2), (5, .int (-1 : Int32)), (0, .ref 102), (1, .int v1), (2, .int v2), (3, .int v3), (4, .int v4)]) d_X12_steps_62 (Nat.le_of_ble_eq_true rfl) rfl ?_
          refine r_iconst (pc := 64) (0 : Int32) d_X12_steps_64 rfl ?_
          refine r_istore (pc := 65) (ls' := [(7, .int (0 : Int32)), (6, .int v2), (5, .int (-1 : Int32)), (0, .ref 102), (1, .int v1), (2, .int v2), (3, .int v3), (4, .int v4)]) d_X12_steps_65 (Nat.le_of_ble_eq_true rfl) rfl ?_
          refine r_pick [3, 4, 5, 6, 2, 1, 0] (ls' := [(0, .ref 102), (1, .int v1), (2, .int v2), (3, .int v3), (5, .int (-1 : Int32)), (6, .int v2), (7, .int (0 : Int32))]) rfl ?_
          exact s_X12_steps_67 hst h0 hd (fn_X12_steps_43 v1 n) hk43 zFU  v2 v3 (-1 : Int32) v2 (0 : Int32) D
theorem s_X12_steps_20 {X : zX} {Sh : zSh} {d : Nat} (hst : (zl X).stackTraces = false) (h0 : zSh0 Sh) (hd : 4 ≤ d) {v1 : Int32} (w1 : Int32) (D : zD)  : Rn X m_X12_steps (d + 1) 20 [(0, .ref 102), (1, .int v1)] [.int w1, .ref 102] (Sh, D) ((oI Sh) (fn_X12_steps_20 v1 w1 D)) := by
  rw [fn_X12_steps_20]
  refine r_iconst (pc := 20) (1 : Int32) d_X12_steps_20 rfl ?_
  refine q_cI (f := (oI Sh)) (av := [.ref 102, .int w1, .int (1 : Int32)]) (st := []) (z_runV ck_X12_bad rfl ml_X12_214 ci_X12_bad cv_X12_bad (K_102 h0) (ci := 12) rfl rfl (Nat.le_of_ble_eq_true rfl) d_X12_steps_21) (s_X12_bad hst h0 (by omega)) kp_I (fun q4 _ => ?_)
  refine r_if_eq (f := (oI Sh)) (pc := 24) 29 d_X12_steps_24 (by decide) (fun c5 => ?_) (fun c5 => ?_)
  · refine r_aload_n (pc := 29) 0 d_X12_steps_29 rfl rfl ?_
    refine q_cV (f := (oI Sh)) (av := [.ref 102]) (st := []) (z_runV ck_X12_layNow rfl ml_X12_311 ci_X12_layNow cv_X12_layNow (K_102 h0) (ci := 12) rfl rfl (Nat.le_of_ble_eq_true rfl) d_X12_steps_30) (s_X12_layNow hst h0 (by omega)) kp_I (fun D6 _ => ?_)
    refine r_aload_n (pc := 33) 0 d_X12_steps_33 rfl rfl ?_
    refine q_cI (f := (oI Sh)) (av := [.ref 102]) (st := []) (z_runV ck_X12_layPairs rfl ml_X12_314 ci_X12_layPairs cv_X12_layPairs (K_102 h0) (ci := 12) rfl rfl (Nat.le_of_ble_eq_true rfl) d_X12_steps_34) (s_X12_layPairs hst h0 (by omega)) kp_I (fun q7 _ => ?_)
    refine r_istore_n (pc := 37) (ls' := [(2, .int q7.1), (0, .ref 102), (1, .int v1)]) d_X12_steps_37 rfl (Nat.le_of_ble_eq_true rfl) rfl ?_
    refine r_iconst (pc := 38) (0 : Int32) d_X12_steps_38 rfl ?_
    refine r_istore_n (pc := 39) (ls' := [(3, .int (0 : Int32)), (2, .int q7.1), (0, .ref 102), (1, .int v1)]) d_X12_steps_39 rfl (Nat.le_of_ble_eq_true rfl) rfl ?_
    refine r_iconst (pc := 40) (1 : Int32) d_X12_steps_40 rfl ?_
    refine r_istore (pc := 41) (ls' := [(4, .int (1 : Int32)), (3, .int (0 : Int32)), (2, .int q7.1), (0, .ref 102), (1, .int v1)]) d_X12_steps_41 (Nat.le_of_ble_eq_true rfl) rfl ?_
    refine r_pick [3, 4, 2, 1, 0] (ls' := [(0, .ref 102), (1, .int v1), (2, .int q7.1), (3, .int (0 : Int32)), (4, .int (1 : Int32))]) rfl ?_
    exact s_X12_steps_43 hst h0 hd zFU  q7.1 (0 : Int32) (1 : Int32) q7.2
  · refine r_iconst (pc := 27) (0 : Int32) d_X12_steps_27 rfl ?_
    exact r_iret (pc := 28) rfl d_X12_steps_28
theorem s_X12_steps {X : zX} {Sh : zSh} {d : Nat} (hst : (zl X).stackTraces = false) (h0 : zSh0 Sh) (hd : 5 ≤ d) {v1 : Int32} {D : zD} : Sd X m_X12_steps d [.ref 102, .int v1] (Sh, D) ((oI Sh) (fn_X12_steps v1 D)) := by
  obtain ⟨d, rfl⟩ : ∃ e, d = e + 1 := ⟨d - 1, by omega⟩
  replace hd : 4 ≤ d := by omega
  refine z_body ck_X12_steps rfl (Nat.le_of_ble_eq_true rfl) rfl hst ?_
  rw [fn_X12_steps]
  show Rn X m_X12_steps (d + 1) 0 [(0, .ref 102), (1, .int v1)] [] (Sh, D) _
  refine r_aload_n (pc := 0) 0 d_X12_steps_0 rfl rfl ?_
  refine r_iconst (pc := 1) (0 : Int32) d_X12_steps_1 rfl ?_
  refine r_putI (pc := 2) p_X12_113 (K_102 h0) rfl (Or.inl rfl) d_X12_steps_2 ?_
  refine r_letD (f := (oI Sh)) (fun D1 => ?_)
  refine r_aload_n (pc := 5) 0 d_X12_steps_5 rfl rfl ?_
  refine r_iload_n (pc := 6) 1 d_X12_steps_6 rfl rfl ?_
  refine r_iconst (pc := 7) (0 : Int32) d_X12_steps_7 rfl ?_
  refine r_iconst (pc := 8) (1 : Int32) d_X12_steps_8 rfl ?_
  refine q_cP (f := (oI Sh)) (av := [.int v1, .int (0 : Int32), .int (1 : Int32)]) (st := [.ref 102]) (z_runS ck_X12_in rfl ml_X12_147 cs_X12_in rfl (Nat.le_of_ble_eq_true rfl) d_X12_steps_9) (s_X12_in hst h0 (by omega)) kp_I (fun x2 _ => ?_)
  refine r_if_ne (f := (oI Sh)) (pc := 12) 19 d_X12_steps_12 (by decide) (fun c3 => ?_) (fun c3 => ?_)
  · refine r_iconst (pc := 19) (0 : Int32) d_X12_steps_19 rfl ?_
    refine r_pick [0, 1] (ls' := [(0, .ref 102), (1, .int v1)]) rfl ?_
    exact s_X12_steps_20 hst h0 hd (0 : Int32) D1
  · refine r_iconst (pc := 15) (1 : Int32) d_X12_steps_15 rfl ?_
    refine r_goto (pc := 16) 20 d_X12_steps_16 (by decide) ?_
    refine r_pick [0, 1] (ls' := [(0, .ref 102), (1, .int v1)]) rfl ?_
    exact s_X12_steps_20 hst h0 hd (1 : Int32) D1
