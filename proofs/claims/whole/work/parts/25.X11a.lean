/-! CoveredSigns.putNumber -/
theorem d_X11_putNumber_0 : decode (yB m_X11_putNumber) 0 = .ok (.bipush 24, 2) := by decide +kernel
theorem d_X11_putNumber_2 : decode (yB m_X11_putNumber) 2 = .ok (.istore_n 2, 1) := by decide +kernel
theorem d_X11_putNumber_3 : decode (yB m_X11_putNumber) 3 = .ok (.iload_n 2, 1) := by decide +kernel
theorem d_X11_putNumber_4 : decode (yB m_X11_putNumber) 4 = .ok (.ifCond .lt 51, 3) := by decide +kernel
theorem d_X11_putNumber_7 : decode (yB m_X11_putNumber) 7 = .ok (.aload_n 0, 1) := by decide +kernel
theorem d_X11_putNumber_8 : decode (yB m_X11_putNumber) 8 = .ok (.getfield 122, 3) := by decide +kernel
theorem d_X11_putNumber_11 : decode (yB m_X11_putNumber) 11 = .ok (.ifCond .lt 38, 3) := by decide +kernel
theorem d_X11_putNumber_14 : decode (yB m_X11_putNumber) 14 = .ok (.aload_n 0, 1) := by decide +kernel
theorem d_X11_putNumber_15 : decode (yB m_X11_putNumber) 15 = .ok (.getfield 122, 3) := by decide +kernel
theorem d_X11_putNumber_18 : decode (yB m_X11_putNumber) 18 = .ok (.aload_n 0, 1) := by decide +kernel
theorem d_X11_putNumber_19 : decode (yB m_X11_putNumber) 19 = .ok (.getfield 9, 3) := by decide +kernel
theorem d_X11_putNumber_22 : decode (yB m_X11_putNumber) 22 = .ok (.arraylength, 1) := by decide +kernel
theorem d_X11_putNumber_23 : decode (yB m_X11_putNumber) 23 = .ok (.if_icmp .ge 26, 3) := by decide +kernel
theorem d_X11_putNumber_26 : decode (yB m_X11_putNumber) 26 = .ok (.aload_n 0, 1) := by decide +kernel
theorem d_X11_putNumber_27 : decode (yB m_X11_putNumber) 27 = .ok (.getfield 9, 3) := by decide +kernel
theorem d_X11_putNumber_30 : decode (yB m_X11_putNumber) 30 = .ok (.aload_n 0, 1) := by decide +kernel
theorem d_X11_putNumber_31 : decode (yB m_X11_putNumber) 31 = .ok (.getfield 122, 3) := by decide +kernel
theorem d_X11_putNumber_34 : decode (yB m_X11_putNumber) 34 = .ok (.iload_n 1, 1) := by decide +kernel
theorem d_X11_putNumber_35 : decode (yB m_X11_putNumber) 35 = .ok (.iload_n 2, 1) := by decide +kernel
theorem d_X11_putNumber_36 : decode (yB m_X11_putNumber) 36 = .ok (.ishr, 1) := by decide +kernel
theorem d_X11_putNumber_37 : decode (yB m_X11_putNumber) 37 = .ok (.i2b, 1) := by decide +kernel
theorem d_X11_putNumber_38 : decode (yB m_X11_putNumber) 38 = .ok (.bastore, 1) := by decide +kernel
theorem d_X11_putNumber_39 : decode (yB m_X11_putNumber) 39 = .ok (.aload_n 0, 1) := by decide +kernel
theorem d_X11_putNumber_40 : decode (yB m_X11_putNumber) 40 = .ok (.dup, 1) := by decide +kernel
theorem d_X11_putNumber_41 : decode (yB m_X11_putNumber) 41 = .ok (.getfield 122, 3) := by decide +kernel
theorem d_X11_putNumber_44 : decode (yB m_X11_putNumber) 44 = .ok (.iconst 1, 1) := by decide +kernel
theorem d_X11_putNumber_45 : decode (yB m_X11_putNumber) 45 = .ok (.iadd, 1) := by decide +kernel
theorem d_X11_putNumber_46 : decode (yB m_X11_putNumber) 46 = .ok (.putfield 122, 3) := by decide +kernel
theorem d_X11_putNumber_49 : decode (yB m_X11_putNumber) 49 = .ok (.iinc 2 (-8), 3) := by decide +kernel
theorem d_X11_putNumber_52 : decode (yB m_X11_putNumber) 52 = .ok (.goto (-49), 3) := by decide +kernel
theorem d_X11_putNumber_55 : decode (yB m_X11_putNumber) 55 = .ok (.return_, 1) := by decide +kernel
def fn_X11_putNumber_3 (v1 : Int32) : Nat → Int32 → zD → Option zD
  | 0, _, _ => none
  | n + 1, v2, D => (if v2 < 0 then ((some D)) else ((if (gI D 0 17) < 0 then (((fn_X11_putNumber_3 v1 n) (v2 + (-8 : Int32)) D)) else ((if (Int32.ofNat 500) ≤ (gI D 0 17) then (((fn_X11_putNumber_3 v1 n) (v2 + (-8 : Int32)) D)) else (zck (gI D 0 17) 500 <| zlet (sI D 1 (gI D 0 17).toNatClampNeg (vp_nar .byte ((v1 >>> (v2 &&& 31))).toInt8.toInt32)) fun D5 => zlet (sI D5 0 17 ((gI D5 0 17) + (1 : Int32))) fun D6 => ((fn_X11_putNumber_3 v1 n) (v2 + (-8 : Int32)) D6)))))))
def fn_X11_putNumber (v1 : Int32) (D : zD) : Option zD := (fn_X11_putNumber_3 v1 zFU (24 : Int32) D)
theorem s_X11_putNumber_3 {X : zX} {Sh : zSh} {d : Nat} (hst : (zl X).stackTraces = false) (h0 : zSh0 Sh) (hd : 0 ≤ d) {v1 : Int32} : ∀ (n : Nat) (v2 : Int32) (D : zD) , Rn X m_X11_putNumber (d + 1) 3 [(0, .ref 0), (1, .int v1), (2, .int v2)] [] (Sh, D) ((oV Sh) (fn_X11_putNumber_3 v1 n v2 D)) := by
  intro n
  induction n with
  | zero => intro v2 D; exact Rn_none rfl
  | succ n hk3 =>
    intro v2 D
    rw [fn_X11_putNumber_3]
    refine r_iload_n (pc := 3) 2 d_X11_putNumber_3 rfl rfl ?_
    refine r_if_lt (f := (oV Sh)) (pc := 4) 55 d_X11_putNumber_4 (by decide) (fun c1 => ?_) (fun c1 => ?_)
    · exact r_vret (pc := 55) rfl d_X11_putNumber_55
    · refine r_aload_n (pc := 7) 0 d_X11_putNumber_7 rfl rfl ?_
      refine q_gI (pc := 8) g_X11_122 (K_0 h0) rfl d_X11_putNumber_8 ?_
      refine r_if_lt (f := (oV Sh)) (pc := 11) 49 d_X11_putNumber_11 (by decide) (fun c2 => ?_) (fun c2 => ?_)
      · refine r_iinc (pc := 49) ((v2 + (-8 : Int32))) 2 (ls' := [(2, .int (v2 + (-8 : Int32))), (0, .ref 0), (1, .int v1)]) d_X11_putNumber_49 rfl rfl (Nat.le_of_ble_eq_true rfl) rfl ?_
        refine r_goto (pc := 52) 3 d_X11_putNumber_52 (by decide) ?_
        refine r_pick [1, 2, 0] (ls' := [(0, .ref 0), (1, .int v1), (2, .int (v2 + (-8 : Int32)))]) rfl ?_
        exact hk3 (v2 + (-8 : Int32)) D 
      · refine r_aload_n (pc := 14) 0 d_X11_putNumber_14 rfl rfl ?_
        refine q_gI (pc := 15) g_X11_122 (K_0 h0) rfl d_X11_putNumber_15 ?_
        refine r_aload_n (pc := 18) 0 d_X11_putNumber_18 rfl rfl ?_
        refine r_getR (pc := 19) g_X11_9 (K_0 h0) rfl (R_0_0 h0) d_X11_putNumber_19 ?_
        refine r_alen (pc := 22) (K_1 h0) (by decide) d_X11_putNumber_22 ?_
        refine r_icmp_ge (f := (oV Sh)) (pc := 23) 49 d_X11_putNumber_23 (by decide) (fun c3 => ?_) (fun c3 => ?_)
        · refine r_iinc (pc := 49) ((v2 + (-8 : Int32))) 2 (ls' := [(2, .int (v2 + (-8 : Int32))), (0, .ref 0), (1, .int v1)]) d_X11_putNumber_49 rfl rfl (Nat.le_of_ble_eq_true rfl) rfl ?_
          refine r_goto (pc := 52) 3 d_X11_putNumber_52 (by decide) ?_
          refine r_pick [1, 2, 0] (ls' := [(0, .ref 0), (1, .int v1), (2, .int (v2 + (-8 : Int32)))]) rfl ?_
          exact hk3 (v2 + (-8 : Int32)) D 
        · refine r_aload_n (pc := 26) 0 d_X11_putNumber_26 rfl rfl ?_
          refine r_getR (pc := 27) g_X11_9 (K_0 h0) rfl (R_0_0 h0) d_X11_putNumber_27 ?_
          refine r_aload_n (pc := 30) 0 d_X11_putNumber_30 rfl rfl ?_
          refine q_gI (pc := 31) g_X11_122 (K_0 h0) rfl d_X11_putNumber_31 ?_
          refine r_iload_n (pc := 34) 1 d_X11_putNumber_34 rfl rfl ?_
          refine r_iload_n (pc := 35) 2 d_X11_putNumber_35 rfl rfl ?_
          refine r_ishr (pc := 36) d_X11_putNumber_36 ?_
          refine r_i2b (pc := 37) d_X11_putNumber_37 ?_
          refine r_ck (f := (oV Sh)) rfl (fun hc4 => ?_)
          refine q_bast (pc := 38) (j := (gI D 0 17).toNatClampNeg) (K_1 h0) hc4 rfl  d_X11_putNumber_38 ?_
          refine r_letD (f := (oV Sh)) (fun D5 => ?_)
          refine r_aload_n (pc := 39) 0 d_X11_putNumber_39 rfl rfl ?_
          refine r_dup (pc := 40) d_X11_putNumber_40 rfl ?_
          refine q_gI (pc := 41) g_X11_122 (K_0 h0) rfl d_X11_putNumber_41 ?_
          refine r_iconst (pc := 44) (1 : Int32) d_X11_putNumber_44 rfl ?_
          refine r_iadd (pc := 45) d_X11_putNumber_45 ?_
          refine r_putI (pc := 46) p_X11_122 (K_0 h0) rfl (Or.inl rfl) d_X11_putNumber_46 ?_
          refine r_letD (f := (oV Sh)) (fun D6 => ?_)
          refine r_iinc (pc := 49) ((v2 + (-8 : Int32))) 2 (ls' := [(2, .int (v2 + (-8 : Int32))), (0, .ref 0), (1, .int v1)]) d_X11_putNumber_49 rfl rfl (Nat.le_of_ble_eq_true rfl) rfl ?_
          refine r_goto (pc := 52) 3 d_X11_putNumber_52 (by decide) ?_
          refine r_pick [1, 2, 0] (ls' := [(0, .ref 0), (1, .int v1), (2, .int (v2 + (-8 : Int32)))]) rfl ?_
          exact hk3 (v2 + (-8 : Int32)) D6 
theorem s_X11_putNumber {X : zX} {Sh : zSh} {d : Nat} (hst : (zl X).stackTraces = false) (h0 : zSh0 Sh) (hd : 1 ≤ d) {v1 : Int32} {D : zD} : Sd X m_X11_putNumber d [.ref 0, .int v1] (Sh, D) ((oV Sh) (fn_X11_putNumber v1 D)) := by
  obtain ⟨d, rfl⟩ : ∃ e, d = e + 1 := ⟨d - 1, by omega⟩
  replace hd : 0 ≤ d := by omega
  refine z_body ck_X11_putNumber rfl (Nat.le_of_ble_eq_true rfl) rfl hst ?_
  rw [fn_X11_putNumber]
  show Rn X m_X11_putNumber (d + 1) 0 [(0, .ref 0), (1, .int v1)] [] (Sh, D) _
  refine r_bipush (pc := 0) (24 : Int32) d_X11_putNumber_0 rfl ?_
  refine r_istore_n (pc := 2) (ls' := [(2, .int (24 : Int32)), (0, .ref 0), (1, .int v1)]) d_X11_putNumber_2 rfl (Nat.le_of_ble_eq_true rfl) rfl ?_
  refine r_pick [1, 2, 0] (ls' := [(0, .ref 0), (1, .int v1), (2, .int (24 : Int32))]) rfl ?_
  exact s_X11_putNumber_3 hst h0 hd zFU  (24 : Int32) D
/-! CoveredSigns.feed -/
theorem d_X11_feed_0 : decode (yB m_X11_feed) 0 = .ok (.aload_n 0, 1) := by decide +kernel
theorem d_X11_feed_1 : decode (yB m_X11_feed) 1 = .ok (.getfield 122, 3) := by decide +kernel
theorem d_X11_feed_4 : decode (yB m_X11_feed) 4 = .ok (.sipush 480, 3) := by decide +kernel
theorem d_X11_feed_7 : decode (yB m_X11_feed) 7 = .ok (.if_icmp .le 5, 3) := by decide +kernel
theorem d_X11_feed_10 : decode (yB m_X11_feed) 10 = .ok (.iconst (-1), 1) := by decide +kernel
theorem d_X11_feed_11 : decode (yB m_X11_feed) 11 = .ok (.ireturn, 1) := by decide +kernel
theorem d_X11_feed_12 : decode (yB m_X11_feed) 12 = .ok (.aload_n 0, 1) := by decide +kernel
theorem d_X11_feed_13 : decode (yB m_X11_feed) 13 = .ok (.iload_n 1, 1) := by decide +kernel
theorem d_X11_feed_14 : decode (yB m_X11_feed) 14 = .ok (.invokevirtual 126, 3) := by decide +kernel
theorem d_X11_feed_17 : decode (yB m_X11_feed) 17 = .ok (.aload_n 0, 1) := by decide +kernel
theorem d_X11_feed_18 : decode (yB m_X11_feed) 18 = .ok (.iload_n 2, 1) := by decide +kernel
theorem d_X11_feed_19 : decode (yB m_X11_feed) 19 = .ok (.invokevirtual 126, 3) := by decide +kernel
theorem d_X11_feed_22 : decode (yB m_X11_feed) 22 = .ok (.aload_n 0, 1) := by decide +kernel
theorem d_X11_feed_23 : decode (yB m_X11_feed) 23 = .ok (.iload_n 3, 1) := by decide +kernel
theorem d_X11_feed_24 : decode (yB m_X11_feed) 24 = .ok (.invokevirtual 126, 3) := by decide +kernel
theorem d_X11_feed_27 : decode (yB m_X11_feed) 27 = .ok (.aload_n 0, 1) := by decide +kernel
theorem d_X11_feed_28 : decode (yB m_X11_feed) 28 = .ok (.iload 4, 2) := by decide +kernel
theorem d_X11_feed_30 : decode (yB m_X11_feed) 30 = .ok (.invokevirtual 126, 3) := by decide +kernel
theorem d_X11_feed_33 : decode (yB m_X11_feed) 33 = .ok (.aload_n 0, 1) := by decide +kernel
theorem d_X11_feed_34 : decode (yB m_X11_feed) 34 = .ok (.iload 5, 2) := by decide +kernel
theorem d_X11_feed_36 : decode (yB m_X11_feed) 36 = .ok (.invokevirtual 126, 3) := by decide +kernel
theorem d_X11_feed_39 : decode (yB m_X11_feed) 39 = .ok (.aload_n 0, 1) := by decide +kernel
theorem d_X11_feed_40 : decode (yB m_X11_feed) 40 = .ok (.getfield 122, 3) := by decide +kernel
theorem d_X11_feed_43 : decode (yB m_X11_feed) 43 = .ok (.ireturn, 1) := by decide +kernel
def fn_X11_feed (v1 : Int32) (v2 : Int32) (v3 : Int32) (v4 : Int32) (v5 : Int32) (D : zD) : Option (Int32 × zD) := (if (gI D 0 17) ≤ (480 : Int32) then ((fn_X11_putNumber v1 D).bind fun D2 => (fn_X11_putNumber v2 D2).bind fun D3 => (fn_X11_putNumber v3 D3).bind fun D4 => (fn_X11_putNumber v4 D4).bind fun D5 => (fn_X11_putNumber v5 D5).bind fun D6 => (some ((gI D6 0 17), D6))) else ((some ((-1 : Int32), D))))
theorem s_X11_feed {X : zX} {Sh : zSh} {d : Nat} (hst : (zl X).stackTraces = false) (h0 : zSh0 Sh) (hd : 2 ≤ d) {v1 : Int32} {v2 : Int32} {v3 : Int32} {v4 : Int32} {v5 : Int32} {D : zD} : Sd X m_X11_feed d [.ref 0, .int v1, .int v2, .int v3, .int v4, .int v5] (Sh, D) ((oI Sh) (fn_X11_feed v1 v2 v3 v4 v5 D)) := by
  obtain ⟨d, rfl⟩ : ∃ e, d = e + 1 := ⟨d - 1, by omega⟩
  replace hd : 1 ≤ d := by omega
  refine z_body ck_X11_feed rfl (Nat.le_of_ble_eq_true rfl) rfl hst ?_
  rw [fn_X11_feed]
  show Rn X m_X11_feed (d + 1) 0 [(0, .ref 0), (1, .int v1), (2, .int v2), (3, .int v3), (4, .int v4), (5, .int v5)] [] (Sh, D) _
  refine r_aload_n (pc := 0) 0 d_X11_feed_0 rfl rfl ?_
  refine q_gI (pc := 1) g_X11_122 (K_0 h0) rfl d_X11_feed_1 ?_
  refine r_sipush (pc := 4) (480 : Int32) d_X11_feed_4 rfl ?_
  refine r_icmp_le (f := (oI Sh)) (pc := 7) 12 d_X11_feed_7 (by decide) (fun c1 => ?_) (fun c1 => ?_)
  · refine r_aload_n (pc := 12) 0 d_X11_feed_12 rfl rfl ?_
    refine r_iload_n (pc := 13) 1 d_X11_feed_13 rfl rfl ?_
    refine q_cV (f := (oI Sh)) (av := [.ref 0, .int v1]) (st := []) (z_runV ck_X11_putNumber rfl ml_X11_126 ci_X11_putNumber cv_X11_putNumber (K_0 h0) (ci := 11) rfl rfl (Nat.le_of_ble_eq_true rfl) d_X11_feed_14) (s_X11_putNumber hst h0 (by omega)) kp_I (fun D2 _ => ?_)
    refine r_aload_n (pc := 17) 0 d_X11_feed_17 rfl rfl ?_
    refine r_iload_n (pc := 18) 2 d_X11_feed_18 rfl rfl ?_
    refine q_cV (f := (oI Sh)) (av := [.ref 0, .int v2]) (st := []) (z_runV ck_X11_putNumber rfl ml_X11_126 ci_X11_putNumber cv_X11_putNumber (K_0 h0) (ci := 11) rfl rfl (Nat.le_of_ble_eq_true rfl) d_X11_feed_19) (s_X11_putNumber hst h0 (by omega)) kp_I (fun D3 _ => ?_)
    refine r_aload_n (pc := 22) 0 d_X11_feed_22 rfl rfl ?_
    refine r_iload_n (pc := 23) 3 d_X11_feed_23 rfl rfl ?_
    refine q_cV (f := (oI Sh)) (av := [.ref 0, .int v3]) (st := []) (z_runV ck_X11_putNumber rfl ml_X11_126 ci_X11_putNumber cv_X11_putNumber (K_0 h0) (ci := 11) rfl rfl (Nat.le_of_ble_eq_true rfl) d_X11_feed_24) (s_X11_putNumber hst h0 (by omega)) kp_I (fun D4 _ => ?_)
    refine r_aload_n (pc := 27) 0 d_X11_feed_27 rfl rfl ?_
    refine r_iload (pc := 28) 4 d_X11_feed_28 rfl ?_
    refine q_cV (f := (oI Sh)) (av := [.ref 0, .int v4]) (st := []) (z_runV ck_X11_putNumber rfl ml_X11_126 ci_X11_putNumber cv_X11_putNumber (K_0 h0) (ci := 11) rfl rfl (Nat.le_of_ble_eq_true rfl) d_X11_feed_30) (s_X11_putNumber hst h0 (by omega)) kp_I (fun D5 _ => ?_)
    refine r_aload_n (pc := 33) 0 d_X11_feed_33 rfl rfl ?_
    refine r_iload (pc := 34) 5 d_X11_feed_34 rfl ?_
    refine q_cV (f := (oI Sh)) (av := [.ref 0, .int v5]) (st := []) (z_runV ck_X11_putNumber rfl ml_X11_126 ci_X11_putNumber cv_X11_putNumber (K_0 h0) (ci := 11) rfl rfl (Nat.le_of_ble_eq_true rfl) d_X11_feed_36) (s_X11_putNumber hst h0 (by omega)) kp_I (fun D6 _ => ?_)
    refine r_aload_n (pc := 39) 0 d_X11_feed_39 rfl rfl ?_
    refine q_gI (pc := 40) g_X11_122 (K_0 h0) rfl d_X11_feed_40 ?_
    exact r_iret (pc := 43) rfl d_X11_feed_43
  · refine r_iconst (pc := 10) (-1 : Int32) d_X11_feed_10 rfl ?_
    exact r_iret (pc := 11) rfl d_X11_feed_11
/-! CoveredSigns.needBytes -/
theorem d_X11_needBytes_0 : decode (yB m_X11_needBytes) 0 = .ok (.iload_n 1, 1) := by decide +kernel
theorem d_X11_needBytes_1 : decode (yB m_X11_needBytes) 1 = .ok (.ifCond .lt 11, 3) := by decide +kernel
theorem d_X11_needBytes_4 : decode (yB m_X11_needBytes) 4 = .ok (.iload_n 1, 1) := by decide +kernel
theorem d_X11_needBytes_5 : decode (yB m_X11_needBytes) 5 = .ok (.aload_n 0, 1) := by decide +kernel
theorem d_X11_needBytes_6 : decode (yB m_X11_needBytes) 6 = .ok (.getfield 122, 3) := by decide +kernel
theorem d_X11_needBytes_9 : decode (yB m_X11_needBytes) 9 = .ok (.if_icmp .le 14, 3) := by decide +kernel
theorem d_X11_needBytes_12 : decode (yB m_X11_needBytes) 12 = .ok (.new 198, 3) := by decide +kernel
theorem d_X11_needBytes_15 : decode (yB m_X11_needBytes) 15 = .ok (.dup, 1) := by decide +kernel
theorem d_X11_needBytes_16 : decode (yB m_X11_needBytes) 16 = .ok (.ldc_w 384, 3) := by decide +kernel
theorem d_X11_needBytes_19 : decode (yB m_X11_needBytes) 19 = .ok (.invokespecial 202, 3) := by decide +kernel
theorem d_X11_needBytes_22 : decode (yB m_X11_needBytes) 22 = .ok (.athrow, 1) := by decide +kernel
theorem d_X11_needBytes_23 : decode (yB m_X11_needBytes) 23 = .ok (.return_, 1) := by decide +kernel
def fn_X11_needBytes (v1 : Int32) (D : zD) : Option Nat := (if v1 < 0 then ((some 1)) else ((if v1 ≤ (gI D 0 17) then ((some 0)) else ((some 1)))))
theorem s_X11_needBytes {X : zX} {Sh : zSh} {d : Nat} (hst : (zl X).stackTraces = false) (h0 : zSh0 Sh) (hd : 8 ≤ d) {v1 : Int32} {D : zD} : Sd X m_X11_needBytes d [.ref 0, .int v1] (Sh, D) ((oN Sh D) (fn_X11_needBytes v1 D)) := by
  obtain ⟨d, rfl⟩ : ∃ e, d = e + 1 := ⟨d - 1, by omega⟩
  replace hd : 7 ≤ d := by omega
  refine z_body ck_X11_needBytes rfl (Nat.le_of_ble_eq_true rfl) rfl hst ?_
  rw [fn_X11_needBytes]
  show Rn X m_X11_needBytes (d + 1) 0 [(0, .ref 0), (1, .int v1)] [] (Sh, D) _
  refine r_iload_n (pc := 0) 1 d_X11_needBytes_0 rfl rfl ?_
  refine r_if_lt (f := (oN Sh D)) (pc := 1) 12 d_X11_needBytes_1 (by decide) (fun c1 => ?_) (fun c1 => ?_)
  · exact r_throwW tw_X11_384 d_X11_needBytes_12 d_X11_needBytes_15 d_X11_needBytes_16 d_X11_needBytes_19 d_X11_needBytes_22 rfl (by omega) (Nat.le_of_ble_eq_true rfl)
  · refine r_iload_n (pc := 4) 1 d_X11_needBytes_4 rfl rfl ?_
    refine r_aload_n (pc := 5) 0 d_X11_needBytes_5 rfl rfl ?_
    refine q_gI (pc := 6) g_X11_122 (K_0 h0) rfl d_X11_needBytes_6 ?_
    refine r_icmp_le (f := (oN Sh D)) (pc := 9) 23 d_X11_needBytes_9 (by decide) (fun c2 => ?_) (fun c2 => ?_)
    · exact r_vret (pc := 23) rfl d_X11_needBytes_23
    · exact r_throwW tw_X11_384 d_X11_needBytes_12 d_X11_needBytes_15 d_X11_needBytes_16 d_X11_needBytes_19 d_X11_needBytes_22 rfl (by omega) (Nat.le_of_ble_eq_true rfl)
/-! CoveredSigns.renew -/
theorem d_X11_renew_0 : decode (yB m_X11_renew) 0 = .ok (.aload_n 0, 1) := by decide +kernel
theorem d_X11_renew_1 : decode (yB m_X11_renew) 1 = .ok (.getfield 107, 3) := by decide +kernel
theorem d_X11_renew_4 : decode (yB m_X11_renew) 4 = .ok (.ldc 115, 2) := by decide +kernel
theorem d_X11_renew_6 : decode (yB m_X11_renew) 6 = .ok (.invokestatic 116, 3) := by decide +kernel
theorem d_X11_renew_9 : decode (yB m_X11_renew) 9 = .ok (.aload_n 0, 1) := by decide +kernel
theorem d_X11_renew_10 : decode (yB m_X11_renew) 10 = .ok (.iconst 0, 1) := by decide +kernel
theorem d_X11_renew_11 : decode (yB m_X11_renew) 11 = .ok (.putfield 404, 3) := by decide +kernel
theorem d_X11_renew_14 : decode (yB m_X11_renew) 14 = .ok (.return_, 1) := by decide +kernel
def fn_X11_renew (D : zD) : Option zD := (fn_JA_fill2 101 34 (-1000000 : Int32) D).bind fun D1 => zlet (sI D1 0 16 (0 : Int32)) fun D2 => (some D2)
theorem s_X11_renew {X : zX} {Sh : zSh} {d : Nat} (hst : (zl X).stackTraces = false) (h0 : zSh0 Sh) (hd : 2 ≤ d)  {D : zD} : Sd X m_X11_renew d [.ref 0] (Sh, D) ((oV Sh) (fn_X11_renew D)) := by
  obtain ⟨d, rfl⟩ : ∃ e, d = e + 1 := ⟨d - 1, by omega⟩
  replace hd : 1 ≤ d := by omega
  refine z_body ck_X11_renew rfl (Nat.le_of_ble_eq_true rfl) rfl hst ?_
  rw [fn_X11_renew]
  show Rn X m_X11_renew (d + 1) 0 [(0, .ref 0)] [] (Sh, D) _
  refine r_aload_n (pc := 0) 0 d_X11_renew_0 rfl rfl ?_
  refine r_getR (pc := 1) g_X11_107 (K_0 h0) rfl (R_0_15 h0) d_X11_renew_1 ?_
  refine r_ldc (pc := 4) d_X11_renew_4 cc_X11_115 ?_
  refine q_cV (f := (oV Sh)) (av := [.ref 101, .int (-1000000 : Int32)]) (st := []) (z_runS ck_JA_fill2 rfl ml_X11_116 cs_JA_fill2 rfl (Nat.le_of_ble_eq_true rfl) d_X11_renew_6) (s_JA_fill2 hst h0 (by omega) (K_101 h0) (by decide)) kp_V (fun D1 _ => ?_)
  refine r_aload_n (pc := 9) 0 d_X11_renew_9 rfl rfl ?_
  refine r_iconst (pc := 10) (0 : Int32) d_X11_renew_10 rfl ?_
  refine r_putI (pc := 11) p_X11_404 (K_0 h0) rfl (Or.inr ⟨rfl, by decide⟩) d_X11_renew_11 ?_
  refine r_letD (f := (oV Sh)) (fun D2 => ?_)
  exact r_vret (pc := 14) rfl d_X11_renew_14
/-! CoveredSigns.alphabet -/
theorem d_X11_alphabet_0 : decode (yB m_X11_alphabet) 0 = .ok (.aload_n 0, 1) := by decide +kernel
theorem d_X11_alphabet_1 : decode (yB m_X11_alphabet) 1 = .ok (.iload_n 1, 1) := by decide +kernel
theorem d_X11_alphabet_2 : decode (yB m_X11_alphabet) 2 = .ok (.invokevirtual 129, 3) := by decide +kernel
theorem d_X11_alphabet_5 : decode (yB m_X11_alphabet) 5 = .ok (.aload_n 0, 1) := by decide +kernel
theorem d_X11_alphabet_6 : decode (yB m_X11_alphabet) 6 = .ok (.getfield 18, 3) := by decide +kernel
theorem d_X11_alphabet_9 : decode (yB m_X11_alphabet) 9 = .ok (.iload_n 1, 1) := by decide +kernel
theorem d_X11_alphabet_10 : decode (yB m_X11_alphabet) 10 = .ok (.invokevirtual 132, 3) := by decide +kernel
theorem d_X11_alphabet_13 : decode (yB m_X11_alphabet) 13 = .ok (.aload_n 0, 1) := by decide +kernel
theorem d_X11_alphabet_14 : decode (yB m_X11_alphabet) 14 = .ok (.iconst 0, 1) := by decide +kernel
theorem d_X11_alphabet_15 : decode (yB m_X11_alphabet) 15 = .ok (.putfield 122, 3) := by decide +kernel
theorem d_X11_alphabet_18 : decode (yB m_X11_alphabet) 18 = .ok (.aload_n 0, 1) := by decide +kernel
theorem d_X11_alphabet_19 : decode (yB m_X11_alphabet) 19 = .ok (.getfield 34, 3) := by decide +kernel
theorem d_X11_alphabet_22 : decode (yB m_X11_alphabet) 22 = .ok (.invokevirtual 135, 3) := by decide +kernel
theorem d_X11_alphabet_25 : decode (yB m_X11_alphabet) 25 = .ok (.ifCond .ne 14, 3) := by decide +kernel
theorem d_X11_alphabet_28 : decode (yB m_X11_alphabet) 28 = .ok (.aload_n 0, 1) := by decide +kernel
theorem d_X11_alphabet_29 : decode (yB m_X11_alphabet) 29 = .ok (.getfield 18, 3) := by decide +kernel
theorem d_X11_alphabet_32 : decode (yB m_X11_alphabet) 32 = .ok (.invokevirtual 139, 3) := by decide +kernel
theorem d_X11_alphabet_35 : decode (yB m_X11_alphabet) 35 = .ok (.bipush 10, 2) := by decide +kernel
theorem d_X11_alphabet_37 : decode (yB m_X11_alphabet) 37 = .ok (.isub, 1) := by decide +kernel
theorem d_X11_alphabet_38 : decode (yB m_X11_alphabet) 38 = .ok (.ireturn, 1) := by decide +kernel
theorem d_X11_alphabet_39 : decode (yB m_X11_alphabet) 39 = .ok (.aload_n 0, 1) := by decide +kernel
theorem d_X11_alphabet_40 : decode (yB m_X11_alphabet) 40 = .ok (.getfield 25, 3) := by decide +kernel
theorem d_X11_alphabet_43 : decode (yB m_X11_alphabet) 43 = .ok (.aload_n 0, 1) := by decide +kernel
theorem d_X11_alphabet_44 : decode (yB m_X11_alphabet) 44 = .ok (.getfield 34, 3) := by decide +kernel
theorem d_X11_alphabet_47 : decode (yB m_X11_alphabet) 47 = .ok (.invokevirtual 143, 3) := by decide +kernel
theorem d_X11_alphabet_50 : decode (yB m_X11_alphabet) 50 = .ok (.invokevirtual 147, 3) := by decide +kernel
theorem d_X11_alphabet_53 : decode (yB m_X11_alphabet) 53 = .ok (.aload_n 0, 1) := by decide +kernel
theorem d_X11_alphabet_54 : decode (yB m_X11_alphabet) 54 = .ok (.getfield 41, 3) := by decide +kernel
theorem d_X11_alphabet_57 : decode (yB m_X11_alphabet) 57 = .ok (.iconst 0, 1) := by decide +kernel
theorem d_X11_alphabet_58 : decode (yB m_X11_alphabet) 58 = .ok (.invokevirtual 111, 3) := by decide +kernel
theorem d_X11_alphabet_61 : decode (yB m_X11_alphabet) 61 = .ok (.aload_n 0, 1) := by decide +kernel
theorem d_X11_alphabet_62 : decode (yB m_X11_alphabet) 62 = .ok (.getfield 55, 3) := by decide +kernel
theorem d_X11_alphabet_65 : decode (yB m_X11_alphabet) 65 = .ok (.invokevirtual 151, 3) := by decide +kernel
theorem d_X11_alphabet_68 : decode (yB m_X11_alphabet) 68 = .ok (.aload_n 0, 1) := by decide +kernel
theorem d_X11_alphabet_69 : decode (yB m_X11_alphabet) 69 = .ok (.iconst 0, 1) := by decide +kernel
theorem d_X11_alphabet_70 : decode (yB m_X11_alphabet) 70 = .ok (.putfield 154, 3) := by decide +kernel
theorem d_X11_alphabet_73 : decode (yB m_X11_alphabet) 73 = .ok (.aload_n 0, 1) := by decide +kernel
theorem d_X11_alphabet_74 : decode (yB m_X11_alphabet) 74 = .ok (.getfield 103, 3) := by decide +kernel
theorem d_X11_alphabet_77 : decode (yB m_X11_alphabet) 77 = .ok (.invokevirtual 157, 3) := by decide +kernel
theorem d_X11_alphabet_80 : decode (yB m_X11_alphabet) 80 = .ok (.aload_n 0, 1) := by decide +kernel
theorem d_X11_alphabet_81 : decode (yB m_X11_alphabet) 81 = .ok (.invokevirtual 160, 3) := by decide +kernel
theorem d_X11_alphabet_84 : decode (yB m_X11_alphabet) 84 = .ok (.aload_n 0, 1) := by decide +kernel
theorem d_X11_alphabet_85 : decode (yB m_X11_alphabet) 85 = .ok (.getfield 25, 3) := by decide +kernel
theorem d_X11_alphabet_88 : decode (yB m_X11_alphabet) 88 = .ok (.getfield 163, 3) := by decide +kernel
theorem d_X11_alphabet_91 : decode (yB m_X11_alphabet) 91 = .ok (.ireturn, 1) := by decide +kernel
def fn_X11_alphabet (v1 : Int32) (D : zD) : Option ((Nat ⊕ Int32) × zD) := (fn_X11_needBytes v1 D).bind fun e1 => if e1 = 0 then ((fn_X8_begin v1 D).bind fun D3 => zlet (sI D3 0 17 (0 : Int32)) fun D4 => (fn_X1_parse D4).bind fun q5 => (if q5.1 = 0 then ((fn_X8_kind q5.2).bind fun x15 => (some (.inr (x15 - (10 : Int32)), q5.2))) else ((fn_X1_result q5.2).bind fun o7 => (fn_X0_copyFrom 3 o7 q5.2).bind fun D9 => (fn_X3_beOne 20 (0 : Int32) D9).bind fun D10 => (fn_X9_clear 57 D10).bind fun D11 => zlet (sI D11 0 18 (0 : Int32)) fun D12 => (fn_X5_spoil D12).bind fun D13 => (fn_X11_renew D13).bind fun D14 => (some (.inr (gI D14 3 2), D14))))) else some (.inl e1, D)
theorem s_X11_alphabet {X : zX} {Sh : zSh} {d : Nat} (hst : (zl X).stackTraces = false) (h0 : zSh0 Sh) (hd : 9 ≤ d) {v1 : Int32} {D : zD} : Sd X m_X11_alphabet d [.ref 0, .int v1] (Sh, D) ((oXI Sh) (fn_X11_alphabet v1 D)) := by
  obtain ⟨d, rfl⟩ : ∃ e, d = e + 1 := ⟨d - 1, by omega⟩
  replace hd : 8 ≤ d := by omega
  refine z_body ck_X11_alphabet rfl (Nat.le_of_ble_eq_true rfl) rfl hst ?_
  rw [fn_X11_alphabet]
  show Rn X m_X11_alphabet (d + 1) 0 [(0, .ref 0), (1, .int v1)] [] (Sh, D) _
  refine r_aload_n (pc := 0) 0 d_X11_alphabet_0 rfl rfl ?_
  refine r_iload_n (pc := 1) 1 d_X11_alphabet_1 rfl rfl ?_
  refine q_cN (f := (oXI Sh)) (t := fun e1 => some (.inl e1, D)) (av := [.ref 0, .int v1]) (st := []) (z_runV ck_X11_needBytes rfl ml_X11_129 ci_X11_needBytes cv_X11_needBytes (K_0 h0) (ci := 11) rfl rfl (Nat.le_of_ble_eq_true rfl) d_X11_alphabet_2) (s_X11_needBytes hst h0 (by omega)) rfl kp_XI (fun _ _ => rfl) ?_
  refine r_aload_n (pc := 5) 0 d_X11_alphabet_5 rfl rfl ?_
  refine r_getR (pc := 6) g_X11_18 (K_0 h0) rfl (R_0_1 h0) d_X11_alphabet_6 ?_
  refine r_iload_n (pc := 9) 1 d_X11_alphabet_9 rfl rfl ?_
  refine q_cV (f := (oXI Sh)) (av := [.ref 2, .int v1]) (st := []) (z_runV ck_X8_begin rfl ml_X11_132 ci_X8_begin cv_X8_begin (K_2 h0) (ci := 8) rfl rfl (Nat.le_of_ble_eq_true rfl) d_X11_alphabet_10) (s_X8_begin hst h0 (by omega)) kp_XI (fun D3 _ => ?_)
  refine r_aload_n (pc := 13) 0 d_X11_alphabet_13 rfl rfl ?_
  refine r_iconst (pc := 14) (0 : Int32) d_X11_alphabet_14 rfl ?_
  refine r_putI (pc := 15) p_X11_122 (K_0 h0) rfl (Or.inl rfl) d_X11_alphabet_15 ?_
  refine r_letD (f := (oXI Sh)) (fun D4 => ?_)
  refine r_aload_n (pc := 18) 0 d_X11_alphabet_18 rfl rfl ?_
  refine r_getR (pc := 19) g_X11_34 (K_0 h0) rfl (R_0_3 h0) d_X11_alphabet_19 ?_
  refine q_cI (f := (oXI Sh)) (av := [.ref 11]) (st := []) (z_runV ck_X1_parse rfl ml_X11_135 ci_X1_parse cv_X1_parse (K_11 h0) (ci := 1) rfl rfl (Nat.le_of_ble_eq_true rfl) d_X11_alphabet_22) (s_X1_parse hst h0 (by omega)) kp_XI (fun q5 _ => ?_)
  refine r_if_ne (f := (oXI Sh)) (pc := 25) 39 d_X11_alphabet_25 (by decide) (fun c6 => ?_) (fun c6 => ?_)
  · refine r_aload_n (pc := 39) 0 d_X11_alphabet_39 rfl rfl ?_
    refine r_getR (pc := 40) g_X11_25 (K_0 h0) rfl (R_0_2 h0) d_X11_alphabet_40 ?_
    refine r_aload_n (pc := 43) 0 d_X11_alphabet_43 rfl rfl ?_
    refine r_getR (pc := 44) g_X11_34 (K_0 h0) rfl (R_0_3 h0) d_X11_alphabet_44 ?_
    refine q_cA (f := (oXI Sh)) (av := [.ref 11]) (st := [.ref 3]) (z_runV ck_X1_result rfl ml_X11_143 ci_X1_result cv_X1_result (K_11 h0) (ci := 1) rfl rfl (Nat.le_of_ble_eq_true rfl) d_X11_alphabet_47) (s_X1_result hst h0 (by omega)) kp_XI (fun o7 ha8 => ?_)
    refine q_cV (f := (oXI Sh)) (av := [.ref 3, .ref o7]) (st := []) (z_runV ck_X0_copyFrom rfl ml_X11_147 ci_X0_copyFrom cv_X0_copyFrom (K_3 h0) (ci := 0) rfl rfl (Nat.le_of_ble_eq_true rfl) d_X11_alphabet_50) (s_X0_copyFrom hst h0 (by omega) (I_3) (al_X1_result ha8)) kp_XI (fun D9 _ => ?_)
    refine r_aload_n (pc := 53) 0 d_X11_alphabet_53 rfl rfl ?_
    refine r_getR (pc := 54) g_X11_41 (K_0 h0) rfl (R_0_4 h0) d_X11_alphabet_54 ?_
    refine r_iconst (pc := 57) (0 : Int32) d_X11_alphabet_57 rfl ?_
    refine q_cV (f := (oXI Sh)) (av := [.ref 20, .int (0 : Int32)]) (st := []) (z_runV ck_X3_beOne rfl ml_X11_111 ci_X3_beOne cv_X3_beOne (K_20 h0) (ci := 3) rfl rfl (Nat.le_of_ble_eq_true rfl) d_X11_alphabet_58) (s_X3_beOne hst h0 (by omega) (I_20)) kp_XI (fun D10 _ => ?_)
    refine r_aload_n (pc := 61) 0 d_X11_alphabet_61 rfl rfl ?_
    refine r_getR (pc := 62) g_X11_55 (K_0 h0) rfl (R_0_6 h0) d_X11_alphabet_62 ?_
    refine q_cV (f := (oXI Sh)) (av := [.ref 57]) (st := []) (z_runV ck_X9_clear rfl ml_X11_151 ci_X9_clear cv_X9_clear (K_57 h0) (ci := 9) rfl rfl (Nat.le_of_ble_eq_true rfl) d_X11_alphabet_65) (s_X9_clear hst h0 (by omega) (I_57)) kp_XI (fun D11 _ => ?_)
    refine r_aload_n (pc := 68) 0 d_X11_alphabet_68 rfl rfl ?_
    refine r_iconst (pc := 69) (0 : Int32) d_X11_alphabet_69 rfl ?_
    refine r_putI (pc := 70) p_X11_154 (K_0 h0) rfl (Or.inl rfl) d_X11_alphabet_70 ?_
    refine r_letD (f := (oXI Sh)) (fun D12 => ?_)
    refine r_aload_n (pc := 73) 0 d_X11_alphabet_73 rfl rfl ?_
    refine r_getR (pc := 74) g_X11_103 (K_0 h0) rfl (R_0_14 h0) d_X11_alphabet_74 ?_
    refine q_cV (f := (oXI Sh)) (av := [.ref 97]) (st := []) (z_runV ck_X5_spoil rfl ml_X11_157 ci_X5_spoil cv_X5_spoil (K_97 h0) (ci := 5) rfl rfl (Nat.le_of_ble_eq_true rfl) d_X11_alphabet_77) (s_X5_spoil hst h0 (by omega)) kp_XI (fun D13 _ => ?_)
    refine r_aload_n (pc := 80) 0 d_X11_alphabet_80 rfl rfl ?_
    refine q_cV (f := (oXI Sh)) (av := [.ref 0]) (st := []) (z_runV ck_X11_renew rfl ml_X11_160 ci_X11_renew cv_X11_renew (K_0 h0) (ci := 11) rfl rfl (Nat.le_of_ble_eq_true rfl) d_X11_alphabet_81) (s_X11_renew hst h0 (by omega)) kp_XI (fun D14 _ => ?_)
    refine r_aload_n (pc := 84) 0 d_X11_alphabet_84 rfl rfl ?_
    refine r_getR (pc := 85) g_X11_25 (K_0 h0) rfl (R_0_2 h0) d_X11_alphabet_85 ?_
    refine q_gIn (pc := 88) g_X11_163 (K_3 h0) rfl d_X11_alphabet_88 ?_
    exact r_iret (pc := 91) rfl d_X11_alphabet_91
  · refine r_aload_n (pc := 28) 0 d_X11_alphabet_28 rfl rfl ?_
    refine r_getR (pc := 29) g_X11_18 (K_0 h0) rfl (R_0_1 h0) d_X11_alphabet_29 ?_
    refine q_cP (f := (oXI Sh)) (av := [.ref 2]) (st := []) (z_runV ck_X8_kind rfl ml_X11_139 ci_X8_kind cv_X8_kind (K_2 h0) (ci := 8) rfl rfl (Nat.le_of_ble_eq_true rfl) d_X11_alphabet_32) (s_X8_kind hst h0 (by omega)) kp_XI (fun x15 _ => ?_)
    refine r_bipush (pc := 35) (10 : Int32) d_X11_alphabet_35 rfl ?_
    refine r_isub (pc := 37) d_X11_alphabet_37 ?_
    exact r_iret (pc := 38) rfl d_X11_alphabet_38
/-! CoveredSigns.rule -/
theorem d_X11_rule_0 : decode (yB m_X11_rule) 0 = .ok (.aload_n 0, 1) := by decide +kernel
theorem d_X11_rule_1 : decode (yB m_X11_rule) 1 = .ok (.iload_n 1, 1) := by decide +kernel
theorem d_X11_rule_2 : decode (yB m_X11_rule) 2 = .ok (.invokevirtual 129, 3) := by decide +kernel
theorem d_X11_rule_5 : decode (yB m_X11_rule) 5 = .ok (.aload_n 0, 1) := by decide +kernel
theorem d_X11_rule_6 : decode (yB m_X11_rule) 6 = .ok (.getfield 18, 3) := by decide +kernel
theorem d_X11_rule_9 : decode (yB m_X11_rule) 9 = .ok (.iload_n 1, 1) := by decide +kernel
theorem d_X11_rule_10 : decode (yB m_X11_rule) 10 = .ok (.invokevirtual 132, 3) := by decide +kernel
theorem d_X11_rule_13 : decode (yB m_X11_rule) 13 = .ok (.aload_n 0, 1) := by decide +kernel
theorem d_X11_rule_14 : decode (yB m_X11_rule) 14 = .ok (.iconst 0, 1) := by decide +kernel
theorem d_X11_rule_15 : decode (yB m_X11_rule) 15 = .ok (.putfield 122, 3) := by decide +kernel
theorem d_X11_rule_18 : decode (yB m_X11_rule) 18 = .ok (.aload_n 0, 1) := by decide +kernel
theorem d_X11_rule_19 : decode (yB m_X11_rule) 19 = .ok (.getfield 48, 3) := by decide +kernel
theorem d_X11_rule_22 : decode (yB m_X11_rule) 22 = .ok (.aload_n 0, 1) := by decide +kernel
theorem d_X11_rule_23 : decode (yB m_X11_rule) 23 = .ok (.getfield 25, 3) := by decide +kernel
theorem d_X11_rule_26 : decode (yB m_X11_rule) 26 = .ok (.getfield 166, 3) := by decide +kernel
theorem d_X11_rule_29 : decode (yB m_X11_rule) 29 = .ok (.aload_n 0, 1) := by decide +kernel
theorem d_X11_rule_30 : decode (yB m_X11_rule) 30 = .ok (.getfield 25, 3) := by decide +kernel
theorem d_X11_rule_33 : decode (yB m_X11_rule) 33 = .ok (.getfield 169, 3) := by decide +kernel
theorem d_X11_rule_36 : decode (yB m_X11_rule) 36 = .ok (.invokevirtual 172, 3) := by decide +kernel
theorem d_X11_rule_39 : decode (yB m_X11_rule) 39 = .ok (.ifCond .ne 14, 3) := by decide +kernel
theorem d_X11_rule_42 : decode (yB m_X11_rule) 42 = .ok (.aload_n 0, 1) := by decide +kernel
theorem d_X11_rule_43 : decode (yB m_X11_rule) 43 = .ok (.getfield 18, 3) := by decide +kernel
theorem d_X11_rule_46 : decode (yB m_X11_rule) 46 = .ok (.invokevirtual 139, 3) := by decide +kernel
theorem d_X11_rule_49 : decode (yB m_X11_rule) 49 = .ok (.bipush 10, 2) := by decide +kernel
theorem d_X11_rule_51 : decode (yB m_X11_rule) 51 = .ok (.isub, 1) := by decide +kernel
theorem d_X11_rule_52 : decode (yB m_X11_rule) 52 = .ok (.ireturn, 1) := by decide +kernel
theorem d_X11_rule_53 : decode (yB m_X11_rule) 53 = .ok (.aload_n 0, 1) := by decide +kernel
theorem d_X11_rule_54 : decode (yB m_X11_rule) 54 = .ok (.getfield 41, 3) := by decide +kernel
theorem d_X11_rule_57 : decode (yB m_X11_rule) 57 = .ok (.aload_n 0, 1) := by decide +kernel
theorem d_X11_rule_58 : decode (yB m_X11_rule) 58 = .ok (.getfield 48, 3) := by decide +kernel
theorem d_X11_rule_61 : decode (yB m_X11_rule) 61 = .ok (.invokevirtual 175, 3) := by decide +kernel
theorem d_X11_rule_64 : decode (yB m_X11_rule) 64 = .ok (.invokevirtual 178, 3) := by decide +kernel
theorem d_X11_rule_67 : decode (yB m_X11_rule) 67 = .ok (.aload_n 0, 1) := by decide +kernel
theorem d_X11_rule_68 : decode (yB m_X11_rule) 68 = .ok (.getfield 41, 3) := by decide +kernel
theorem d_X11_rule_71 : decode (yB m_X11_rule) 71 = .ok (.invokevirtual 180, 3) := by decide +kernel
theorem d_X11_rule_74 : decode (yB m_X11_rule) 74 = .ok (.aload_n 0, 1) := by decide +kernel
theorem d_X11_rule_75 : decode (yB m_X11_rule) 75 = .ok (.getfield 55, 3) := by decide +kernel
theorem d_X11_rule_78 : decode (yB m_X11_rule) 78 = .ok (.iconst 0, 1) := by decide +kernel
theorem d_X11_rule_79 : decode (yB m_X11_rule) 79 = .ok (.putfield 183, 3) := by decide +kernel
theorem d_X11_rule_82 : decode (yB m_X11_rule) 82 = .ok (.aload_n 0, 1) := by decide +kernel
theorem d_X11_rule_83 : decode (yB m_X11_rule) 83 = .ok (.invokevirtual 160, 3) := by decide +kernel
theorem d_X11_rule_86 : decode (yB m_X11_rule) 86 = .ok (.aload_n 0, 1) := by decide +kernel
theorem d_X11_rule_87 : decode (yB m_X11_rule) 87 = .ok (.getfield 41, 3) := by decide +kernel
theorem d_X11_rule_90 : decode (yB m_X11_rule) 90 = .ok (.getfield 186, 3) := by decide +kernel
theorem d_X11_rule_93 : decode (yB m_X11_rule) 93 = .ok (.ireturn, 1) := by decide +kernel
def fn_X11_rule (v1 : Int32) (D : zD) : Option ((Nat ⊕ Int32) × zD) := (fn_X11_needBytes v1 D).bind fun e1 => if e1 = 0 then ((fn_X8_begin v1 D).bind fun D3 => zlet (sI D3 0 17 (0 : Int32)) fun D4 => (fn_X7_parse (gI D4 3 0) (gI D4 3 1) D4).bind fun q5 => (if q5.1 = 0 then ((fn_X8_kind q5.2).bind fun x13 => (some (.inr (x13 - (10 : Int32)), q5.2))) else ((fn_X7_result q5.2).bind fun o7 => (fn_X3_copyFrom 20 o7 q5.2).bind fun D9 => (fn_X3_sort 20 D9).bind fun D10 => zlet (sI D10 57 1 (0 : Int32)) fun D11 => (fn_X11_renew D11).bind fun D12 => (some (.inr (gI D12 20 1), D12))))) else some (.inl e1, D)
theorem s_X11_rule {X : zX} {Sh : zSh} {d : Nat} (hst : (zl X).stackTraces = false) (h0 : zSh0 Sh) (hd : 51 ≤ d) {v1 : Int32} {D : zD} : Sd X m_X11_rule d [.ref 0, .int v1] (Sh, D) ((oXI Sh) (fn_X11_rule v1 D)) := by
  obtain ⟨d, rfl⟩ : ∃ e, d = e + 1 := ⟨d - 1, by omega⟩
  replace hd : 50 ≤ d := by omega
  refine z_body ck_X11_rule rfl (Nat.le_of_ble_eq_true rfl) rfl hst ?_
  rw [fn_X11_rule]
  show Rn X m_X11_rule (d + 1) 0 [(0, .ref 0), (1, .int v1)] [] (Sh, D) _
  refine r_aload_n (pc := 0) 0 d_X11_rule_0 rfl rfl ?_
  refine r_iload_n (pc := 1) 1 d_X11_rule_1 rfl rfl ?_
  refine q_cN (f := (oXI Sh)) (t := fun e1 => some (.inl e1, D)) (av := [.ref 0, .int v1]) (st := []) (z_runV ck_X11_needBytes rfl ml_X11_129 ci_X11_needBytes cv_X11_needBytes (K_0 h0) (ci := 11) rfl rfl (Nat.le_of_ble_eq_true rfl) d_X11_rule_2) (s_X11_needBytes hst h0 (by omega)) rfl kp_XI (fun _ _ => rfl) ?_
  refine r_aload_n (pc := 5) 0 d_X11_rule_5 rfl rfl ?_
  refine r_getR (pc := 6) g_X11_18 (K_0 h0) rfl (R_0_1 h0) d_X11_rule_6 ?_
  refine r_iload_n (pc := 9) 1 d_X11_rule_9 rfl rfl ?_
  refine q_cV (f := (oXI Sh)) (av := [.ref 2, .int v1]) (st := []) (z_runV ck_X8_begin rfl ml_X11_132 ci_X8_begin cv_X8_begin (K_2 h0) (ci := 8) rfl rfl (Nat.le_of_ble_eq_true rfl) d_X11_rule_10) (s_X8_begin hst h0 (by omega)) kp_XI (fun D3 _ => ?_)
  refine r_aload_n (pc := 13) 0 d_X11_rule_13 rfl rfl ?_
  refine r_iconst (pc := 14) (0 : Int32) d_X11_rule_14 rfl ?_
  refine r_putI (pc := 15) p_X11_122 (K_0 h0) rfl (Or.inl rfl) d_X11_rule_15 ?_
  refine r_letD (f := (oXI Sh)) (fun D4 => ?_)
  refine r_aload_n (pc := 18) 0 d_X11_rule_18 rfl rfl ?_
  refine r_getR (pc := 19) g_X11_48 (K_0 h0) rfl (R_0_5 h0) d_X11_rule_19 ?_
  refine r_aload_n (pc := 22) 0 d_X11_rule_22 rfl rfl ?_
  refine r_getR (pc := 23) g_X11_25 (K_0 h0) rfl (R_0_2 h0) d_X11_rule_23 ?_
  refine q_gIn (pc := 26) g_X11_166 (K_3 h0) rfl d_X11_rule_26 ?_
  refine r_aload_n (pc := 29) 0 d_X11_rule_29 rfl rfl ?_
  refine r_getR (pc := 30) g_X11_25 (K_0 h0) rfl (R_0_2 h0) d_X11_rule_30 ?_
  refine q_gIn (pc := 33) g_X11_169 (K_3 h0) rfl d_X11_rule_33 ?_
  refine q_cI (f := (oXI Sh)) (av := [.ref 22, .int (gI D4 3 0), .int (gI D4 3 1)]) (st := []) (z_runV ck_X7_parse rfl ml_X11_172 ci_X7_parse cv_X7_parse (K_22 h0) (ci := 7) rfl rfl (Nat.le_of_ble_eq_true rfl) d_X11_rule_36) (s_X7_parse hst h0 (by omega)) kp_XI (fun q5 _ => ?_)
  refine r_if_ne (f := (oXI Sh)) (pc := 39) 53 d_X11_rule_39 (by decide) (fun c6 => ?_) (fun c6 => ?_)
  · refine r_aload_n (pc := 53) 0 d_X11_rule_53 rfl rfl ?_
    refine r_getR (pc := 54) g_X11_41 (K_0 h0) rfl (R_0_4 h0) d_X11_rule_54 ?_
    refine r_aload_n (pc := 57) 0 d_X11_rule_57 rfl rfl ?_
    refine r_getR (pc := 58) g_X11_48 (K_0 h0) rfl (R_0_5 h0) d_X11_rule_58 ?_
    refine q_cA (f := (oXI Sh)) (av := [.ref 22]) (st := [.ref 20]) (z_runV ck_X7_result rfl ml_X11_175 ci_X7_result cv_X7_result (K_22 h0) (ci := 7) rfl rfl (Nat.le_of_ble_eq_true rfl) d_X11_rule_61) (s_X7_result hst h0 (by omega)) kp_XI (fun o7 ha8 => ?_)
    refine q_cV (f := (oXI Sh)) (av := [.ref 20, .ref o7]) (st := []) (z_runV ck_X3_copyFrom rfl ml_X11_178 ci_X3_copyFrom cv_X3_copyFrom (K_20 h0) (ci := 3) rfl rfl (Nat.le_of_ble_eq_true rfl) d_X11_rule_64) (s_X3_copyFrom hst h0 (by omega) (I_20) (al_X7_result ha8)) kp_XI (fun D9 _ => ?_)
    refine r_aload_n (pc := 67) 0 d_X11_rule_67 rfl rfl ?_
    refine r_getR (pc := 68) g_X11_41 (K_0 h0) rfl (R_0_4 h0) d_X11_rule_68 ?_
    refine q_cV (f := (oXI Sh)) (av := [.ref 20]) (st := []) (z_runV ck_X3_sort rfl ml_X11_180 ci_X3_sort cv_X3_sort (K_20 h0) (ci := 3) rfl rfl (Nat.le_of_ble_eq_true rfl) d_X11_rule_71) (s_X3_sort hst h0 (by omega) (I_20)) kp_XI (fun D10 _ => ?_)
    refine r_aload_n (pc := 74) 0 d_X11_rule_74 rfl rfl ?_
    refine r_getR (pc := 75) g_X11_55 (K_0 h0) rfl (R_0_6 h0) d_X11_rule_75 ?_
    refine r_iconst (pc := 78) (0 : Int32) d_X11_rule_78 rfl ?_
    refine r_putIn (pc := 79) p_X11_183 (K_57 h0) rfl (Or.inl rfl) d_X11_rule_79 ?_
    refine r_letD (f := (oXI Sh)) (fun D11 => ?_)
    refine r_aload_n (pc := 82) 0 d_X11_rule_82 rfl rfl ?_
    refine q_cV (f := (oXI Sh)) (av := [.ref 0]) (st := []) (z_runV ck_X11_renew rfl ml_X11_160 ci_X11_renew cv_X11_renew (K_0 h0) (ci := 11) rfl rfl (Nat.le_of_ble_eq_true rfl) d_X11_rule_83) (s_X11_renew hst h0 (by omega)) kp_XI (fun D12 _ => ?_)
    refine r_aload_n (pc := 86) 0 d_X11_rule_86 rfl rfl ?_
    refine r_getR (pc := 87) g_X11_41 (K_0 h0) rfl (R_0_4 h0) d_X11_rule_87 ?_
    refine q_gIn (pc := 90) g_X11_186 (K_20 h0) rfl d_X11_rule_90 ?_
    exact r_iret (pc := 93) rfl d_X11_rule_93
  · refine r_aload_n (pc := 42) 0 d_X11_rule_42 rfl rfl ?_
    refine r_getR (pc := 43) g_X11_18 (K_0 h0) rfl (R_0_1 h0) d_X11_rule_43 ?_
    refine q_cP (f := (oXI Sh)) (av := [.ref 2]) (st := []) (z_runV ck_X8_kind rfl ml_X11_139 ci_X8_kind cv_X8_kind (K_2 h0) (ci := 8) rfl rfl (Nat.le_of_ble_eq_true rfl) d_X11_rule_46) (s_X8_kind hst h0 (by omega)) kp_XI (fun x13 _ => ?_)
    refine r_bipush (pc := 49) (10 : Int32) d_X11_rule_49 rfl ?_
    refine r_isub (pc := 51) d_X11_rule_51 ?_
    exact r_iret (pc := 52) rfl d_X11_rule_52
/-! CoveredSigns.fault -/
theorem d_X11_fault_0 : decode (yB m_X11_fault) 0 = .ok (.aload_n 0, 1) := by decide +kernel
theorem d_X11_fault_1 : decode (yB m_X11_fault) 1 = .ok (.getfield 18, 3) := by decide +kernel
theorem d_X11_fault_4 : decode (yB m_X11_fault) 4 = .ok (.invokevirtual 189, 3) := by decide +kernel
theorem d_X11_fault_7 : decode (yB m_X11_fault) 7 = .ok (.ireturn, 1) := by decide +kernel
def fn_X11_fault (D : zD) : Option Int32 := (fn_X8_place D).bind fun x1 => (some x1)
theorem s_X11_fault {X : zX} {Sh : zSh} {d : Nat} (hst : (zl X).stackTraces = false) (h0 : zSh0 Sh) (hd : 2 ≤ d)  {D : zD} : Sd X m_X11_fault d [.ref 0] (Sh, D) ((oP Sh D) (fn_X11_fault D)) := by
  obtain ⟨d, rfl⟩ : ∃ e, d = e + 1 := ⟨d - 1, by omega⟩
  replace hd : 1 ≤ d := by omega
  refine z_body ck_X11_fault rfl (Nat.le_of_ble_eq_true rfl) rfl hst ?_
  rw [fn_X11_fault]
  show Rn X m_X11_fault (d + 1) 0 [(0, .ref 0)] [] (Sh, D) _
  refine r_aload_n (pc := 0) 0 d_X11_fault_0 rfl rfl ?_
  refine r_getR (pc := 1) g_X11_18 (K_0 h0) rfl (R_0_1 h0) d_X11_fault_1 ?_
  refine q_cP (f := (oP Sh D)) (av := [.ref 2]) (st := []) (z_runV ck_X8_place rfl ml_X11_189 ci_X8_place cv_X8_place (K_2 h0) (ci := 8) rfl rfl (Nat.le_of_ble_eq_true rfl) d_X11_fault_4) (s_X8_place hst h0 (by omega)) kp_P (fun x1 _ => ?_)
  exact r_iret (pc := 7) rfl d_X11_fault_7
/-! CoveredSigns.told -/
theorem d_X11_told_0 : decode (yB m_X11_told) 0 = .ok (.iload_n 1, 1) := by decide +kernel
theorem d_X11_told_1 : decode (yB m_X11_told) 1 = .ok (.tableswitch 87 0 5 #[39, 47, 55, 63, 71, 79], 39) := by decide +kernel
theorem d_X11_told_40 : decode (yB m_X11_told) 40 = .ok (.aload_n 0, 1) := by decide +kernel
theorem d_X11_told_41 : decode (yB m_X11_told) 41 = .ok (.getfield 25, 3) := by decide +kernel
theorem d_X11_told_44 : decode (yB m_X11_told) 44 = .ok (.getfield 163, 3) := by decide +kernel
theorem d_X11_told_47 : decode (yB m_X11_told) 47 = .ok (.ireturn, 1) := by decide +kernel
theorem d_X11_told_48 : decode (yB m_X11_told) 48 = .ok (.aload_n 0, 1) := by decide +kernel
theorem d_X11_told_49 : decode (yB m_X11_told) 49 = .ok (.getfield 25, 3) := by decide +kernel
theorem d_X11_told_52 : decode (yB m_X11_told) 52 = .ok (.getfield 166, 3) := by decide +kernel
theorem d_X11_told_55 : decode (yB m_X11_told) 55 = .ok (.ireturn, 1) := by decide +kernel
theorem d_X11_told_56 : decode (yB m_X11_told) 56 = .ok (.aload_n 0, 1) := by decide +kernel
theorem d_X11_told_57 : decode (yB m_X11_told) 57 = .ok (.getfield 25, 3) := by decide +kernel
theorem d_X11_told_60 : decode (yB m_X11_told) 60 = .ok (.getfield 169, 3) := by decide +kernel
theorem d_X11_told_63 : decode (yB m_X11_told) 63 = .ok (.ireturn, 1) := by decide +kernel
theorem d_X11_told_64 : decode (yB m_X11_told) 64 = .ok (.aload_n 0, 1) := by decide +kernel
theorem d_X11_told_65 : decode (yB m_X11_told) 65 = .ok (.getfield 25, 3) := by decide +kernel
theorem d_X11_told_68 : decode (yB m_X11_told) 68 = .ok (.getfield 192, 3) := by decide +kernel
theorem d_X11_told_71 : decode (yB m_X11_told) 71 = .ok (.ireturn, 1) := by decide +kernel
theorem d_X11_told_72 : decode (yB m_X11_told) 72 = .ok (.aload_n 0, 1) := by decide +kernel
theorem d_X11_told_73 : decode (yB m_X11_told) 73 = .ok (.getfield 41, 3) := by decide +kernel
theorem d_X11_told_76 : decode (yB m_X11_told) 76 = .ok (.getfield 186, 3) := by decide +kernel
theorem d_X11_told_79 : decode (yB m_X11_told) 79 = .ok (.ireturn, 1) := by decide +kernel
theorem d_X11_told_80 : decode (yB m_X11_told) 80 = .ok (.aload_n 0, 1) := by decide +kernel
theorem d_X11_told_81 : decode (yB m_X11_told) 81 = .ok (.getfield 55, 3) := by decide +kernel
theorem d_X11_told_84 : decode (yB m_X11_told) 84 = .ok (.getfield 195, 3) := by decide +kernel
theorem d_X11_told_87 : decode (yB m_X11_told) 87 = .ok (.ireturn, 1) := by decide +kernel
theorem d_X11_told_88 : decode (yB m_X11_told) 88 = .ok (.new 198, 3) := by decide +kernel
theorem d_X11_told_91 : decode (yB m_X11_told) 91 = .ok (.dup, 1) := by decide +kernel
theorem d_X11_told_92 : decode (yB m_X11_told) 92 = .ok (.ldc 200, 2) := by decide +kernel
theorem d_X11_told_94 : decode (yB m_X11_told) 94 = .ok (.invokespecial 202, 3) := by decide +kernel
theorem d_X11_told_97 : decode (yB m_X11_told) 97 = .ok (.athrow, 1) := by decide +kernel
def fn_X11_told (v1 : Int32) (D : zD) : Option (Nat ⊕ Int32) := (if v1 = 0 then ((some (.inr (gI D 3 2)))) else if v1 = 1 then ((some (.inr (gI D 3 0)))) else if v1 = 2 then ((some (.inr (gI D 3 1)))) else if v1 = 3 then ((some (.inr (gI D 3 3)))) else if v1 = 4 then ((some (.inr (gI D 20 1)))) else if v1 = 5 then ((some (.inr (gI D 57 0)))) else ((some (.inl 1))))
theorem s_X11_told {X : zX} {Sh : zSh} {d : Nat} (hst : (zl X).stackTraces = false) (h0 : zSh0 Sh) (hd : 8 ≤ d) {v1 : Int32} {D : zD} : Sd X m_X11_told d [.ref 0, .int v1] (Sh, D) ((oXP Sh D) (fn_X11_told v1 D)) := by
  obtain ⟨d, rfl⟩ : ∃ e, d = e + 1 := ⟨d - 1, by omega⟩
  replace hd : 7 ≤ d := by omega
  refine z_body ck_X11_told rfl (Nat.le_of_ble_eq_true rfl) rfl hst ?_
  rw [fn_X11_told]
  show Rn X m_X11_told (d + 1) 0 [(0, .ref 0), (1, .int v1)] [] (Sh, D) _
  refine r_iload_n (pc := 0) 1 d_X11_told_0 rfl rfl ?_
  refine r_tsw (pc := 1) d_X11_told_1 rfl (fun i off tgt ho hx ht => ?_) (by decide) (fun hx tgt ht => ?_) (by decide)
  · match i, ho with
    | 0, ho =>
      obtain rfl : (39 : Int) = off := Option.some.inj ho
      obtain rfl : 40 = tgt := Int.ofNat.inj ht
      obtain rfl : v1 = (0 : Int32) := z_ieq hx
      show Rn _ _ _ _ _ _ _ ((oXP Sh D) ((some (.inr (gI D 3 2)))))
      refine r_aload_n (pc := 40) 0 d_X11_told_40 rfl rfl ?_
      refine r_getR (pc := 41) g_X11_25 (K_0 h0) rfl (R_0_2 h0) d_X11_told_41 ?_
      refine q_gIn (pc := 44) g_X11_163 (K_3 h0) rfl d_X11_told_44 ?_
      exact r_iret (pc := 47) rfl d_X11_told_47
    | 1, ho =>
      obtain rfl : (47 : Int) = off := Option.some.inj ho
      obtain rfl : 48 = tgt := Int.ofNat.inj ht
      obtain rfl : v1 = (1 : Int32) := z_ieq hx
      show Rn _ _ _ _ _ _ _ ((oXP Sh D) ((some (.inr (gI D 3 0)))))
      refine r_aload_n (pc := 48) 0 d_X11_told_48 rfl rfl ?_
      refine r_getR (pc := 49) g_X11_25 (K_0 h0) rfl (R_0_2 h0) d_X11_told_49 ?_
      refine q_gIn (pc := 52) g_X11_166 (K_3 h0) rfl d_X11_told_52 ?_
      exact r_iret (pc := 55) rfl d_X11_told_55
    | 2, ho =>
      obtain rfl : (55 : Int) = off := Option.some.inj ho
      obtain rfl : 56 = tgt := Int.ofNat.inj ht
      obtain rfl : v1 = (2 : Int32) := z_ieq hx
      show Rn _ _ _ _ _ _ _ ((oXP Sh D) ((some (.inr (gI D 3 1)))))
      refine r_aload_n (pc := 56) 0 d_X11_told_56 rfl rfl ?_
      refine r_getR (pc := 57) g_X11_25 (K_0 h0) rfl (R_0_2 h0) d_X11_told_57 ?_
      refine q_gIn (pc := 60) g_X11_169 (K_3 h0) rfl d_X11_told_60 ?_
      exact r_iret (pc := 63) rfl d_X11_told_63
    | 3, ho =>
      obtain rfl : (63 : Int) = off := Option.some.inj ho
      obtain rfl : 64 = tgt := Int.ofNat.inj ht
      obtain rfl : v1 = (3 : Int32) := z_ieq hx
      show Rn _ _ _ _ _ _ _ ((oXP Sh D) ((some (.inr (gI D 3 3)))))
      refine r_aload_n (pc := 64) 0 d_X11_told_64 rfl rfl ?_
      refine r_getR (pc := 65) g_X11_25 (K_0 h0) rfl (R_0_2 h0) d_X11_told_65 ?_
      refine q_gIn (pc := 68) g_X11_192 (K_3 h0) rfl d_X11_told_68 ?_
      exact r_iret (pc := 71) rfl d_X11_told_71
    | 4, ho =>
      obtain rfl : (71 : Int) = off := Option.some.inj ho
      obtain rfl : 72 = tgt := Int.ofNat.inj ht
      obtain rfl : v1 = (4 : Int32) := z_ieq hx
      show Rn _ _ _ _ _ _ _ ((oXP Sh D) ((some (.inr (gI D 20 1)))))
      refine r_aload_n (pc := 72) 0 d_X11_told_72 rfl rfl ?_
      refine r_getR (pc := 73) g_X11_41 (K_0 h0) rfl (R_0_4 h0) d_X11_told_73 ?_
      refine q_gIn (pc := 76) g_X11_186 (K_20 h0) rfl d_X11_told_76 ?_
      exact r_iret (pc := 79) rfl d_X11_told_79
    | 5, ho =>
      obtain rfl : (79 : Int) = off := Option.some.inj ho
      obtain rfl : 80 = tgt := Int.ofNat.inj ht
      obtain rfl : v1 = (5 : Int32) := z_ieq hx
      show Rn _ _ _ _ _ _ _ ((oXP Sh D) ((some (.inr (gI D 57 0)))))
      refine r_aload_n (pc := 80) 0 d_X11_told_80 rfl rfl ?_
      refine r_getR (pc := 81) g_X11_55 (K_0 h0) rfl (R_0_6 h0) d_X11_told_81 ?_
      refine q_gIn (pc := 84) g_X11_195 (K_57 h0) rfl d_X11_told_84 ?_
      exact r_iret (pc := 87) rfl d_X11_told_87
    | i + 6, ho => exact absurd ho (by simp)
  · obtain rfl : 88 = tgt := Int.ofNat.inj ht
    rw [if_neg (show ¬ v1 = 0 from z_ine hx 0 (by decide) (by decide))]
    rw [if_neg (show ¬ v1 = 1 from z_ine hx 1 (by decide) (by decide))]
    rw [if_neg (show ¬ v1 = 2 from z_ine hx 2 (by decide) (by decide))]
    rw [if_neg (show ¬ v1 = 3 from z_ine hx 3 (by decide) (by decide))]
    rw [if_neg (show ¬ v1 = 4 from z_ine hx 4 (by decide) (by decide))]
    rw [if_neg (show ¬ v1 = 5 from z_ine hx 5 (by decide) (by decide))]
    exact r_throw tw_X11_200 d_X11_told_88 d_X11_told_91 d_X11_told_92 d_X11_told_94 d_X11_told_97 rfl (by omega) (Nat.le_of_ble_eq_true rfl)
/-! CoveredSigns.needSign -/
theorem d_X11_needSign_0 : decode (yB m_X11_needSign) 0 = .ok (.iload_n 1, 1) := by decide +kernel
theorem d_X11_needSign_1 : decode (yB m_X11_needSign) 1 = .ok (.ifCond .lt 14, 3) := by decide +kernel
theorem d_X11_needSign_4 : decode (yB m_X11_needSign) 4 = .ok (.iload_n 1, 1) := by decide +kernel
theorem d_X11_needSign_5 : decode (yB m_X11_needSign) 5 = .ok (.aload_n 0, 1) := by decide +kernel
theorem d_X11_needSign_6 : decode (yB m_X11_needSign) 6 = .ok (.getfield 25, 3) := by decide +kernel
theorem d_X11_needSign_9 : decode (yB m_X11_needSign) 9 = .ok (.getfield 163, 3) := by decide +kernel
theorem d_X11_needSign_12 : decode (yB m_X11_needSign) 12 = .ok (.if_icmp .lt 14, 3) := by decide +kernel
theorem d_X11_needSign_15 : decode (yB m_X11_needSign) 15 = .ok (.new 386, 3) := by decide +kernel
theorem d_X11_needSign_18 : decode (yB m_X11_needSign) 18 = .ok (.dup, 1) := by decide +kernel
theorem d_X11_needSign_19 : decode (yB m_X11_needSign) 19 = .ok (.ldc_w 388, 3) := by decide +kernel
theorem d_X11_needSign_22 : decode (yB m_X11_needSign) 22 = .ok (.invokespecial 390, 3) := by decide +kernel
theorem d_X11_needSign_25 : decode (yB m_X11_needSign) 25 = .ok (.athrow, 1) := by decide +kernel
theorem d_X11_needSign_26 : decode (yB m_X11_needSign) 26 = .ok (.return_, 1) := by decide +kernel
def fn_X11_needSign (v1 : Int32) (D : zD) : Option Nat := (if v1 < 0 then ((some 3)) else ((if v1 < (gI D 3 2) then ((some 0)) else ((some 3)))))
theorem s_X11_needSign {X : zX} {Sh : zSh} {d : Nat} (hst : (zl X).stackTraces = false) (h0 : zSh0 Sh) (hd : 8 ≤ d) {v1 : Int32} {D : zD} : Sd X m_X11_needSign d [.ref 0, .int v1] (Sh, D) ((oN Sh D) (fn_X11_needSign v1 D)) := by
  obtain ⟨d, rfl⟩ : ∃ e, d = e + 1 := ⟨d - 1, by omega⟩
  replace hd : 7 ≤ d := by omega
  refine z_body ck_X11_needSign rfl (Nat.le_of_ble_eq_true rfl) rfl hst ?_
  rw [fn_X11_needSign]
  show Rn X m_X11_needSign (d + 1) 0 [(0, .ref 0), (1, .int v1)] [] (Sh, D) _
  refine r_iload_n (pc := 0) 1 d_X11_needSign_0 rfl rfl ?_
  refine r_if_lt (f := (oN Sh D)) (pc := 1) 15 d_X11_needSign_1 (by decide) (fun c1 => ?_) (fun c1 => ?_)
  · exact r_throwX tx_X11_388 d_X11_needSign_15 d_X11_needSign_18 d_X11_needSign_19 d_X11_needSign_22 d_X11_needSign_25 rfl (by omega) (Nat.le_of_ble_eq_true rfl)
  · refine r_iload_n (pc := 4) 1 d_X11_needSign_4 rfl rfl ?_
    refine r_aload_n (pc := 5) 0 d_X11_needSign_5 rfl rfl ?_
    refine r_getR (pc := 6) g_X11_25 (K_0 h0) rfl (R_0_2 h0) d_X11_needSign_6 ?_
    refine q_gIn (pc := 9) g_X11_163 (K_3 h0) rfl d_X11_needSign_9 ?_
    refine r_icmp_lt (f := (oN Sh D)) (pc := 12) 26 d_X11_needSign_12 (by decide) (fun c2 => ?_) (fun c2 => ?_)
    · exact r_vret (pc := 26) rfl d_X11_needSign_26
    · exact r_throwX tx_X11_388 d_X11_needSign_15 d_X11_needSign_18 d_X11_needSign_19 d_X11_needSign_22 d_X11_needSign_25 rfl (by omega) (Nat.le_of_ble_eq_true rfl)
/-! CoveredSigns.sign -/
theorem d_X11_sign_0 : decode (yB m_X11_sign) 0 = .ok (.aload_n 0, 1) := by decide +kernel
theorem d_X11_sign_1 : decode (yB m_X11_sign) 1 = .ok (.iload_n 1, 1) := by decide +kernel
theorem d_X11_sign_2 : decode (yB m_X11_sign) 2 = .ok (.invokevirtual 205, 3) := by decide +kernel
theorem d_X11_sign_5 : decode (yB m_X11_sign) 5 = .ok (.aload_n 0, 1) := by decide +kernel
theorem d_X11_sign_6 : decode (yB m_X11_sign) 6 = .ok (.getfield 25, 3) := by decide +kernel
theorem d_X11_sign_9 : decode (yB m_X11_sign) 9 = .ok (.iload_n 1, 1) := by decide +kernel
theorem d_X11_sign_10 : decode (yB m_X11_sign) 10 = .ok (.invokevirtual 208, 3) := by decide +kernel
theorem d_X11_sign_13 : decode (yB m_X11_sign) 13 = .ok (.ireturn, 1) := by decide +kernel
def fn_X11_sign (v1 : Int32) (D : zD) : Option (Nat ⊕ Int32) := (fn_X11_needSign v1 D).bind fun e1 => if e1 = 0 then ((fn_X0_paintOf 3 v1 D).bind fun x3 => (some (.inr x3))) else some (.inl e1)
theorem s_X11_sign {X : zX} {Sh : zSh} {d : Nat} (hst : (zl X).stackTraces = false) (h0 : zSh0 Sh) (hd : 9 ≤ d) {v1 : Int32} {D : zD} : Sd X m_X11_sign d [.ref 0, .int v1] (Sh, D) ((oXP Sh D) (fn_X11_sign v1 D)) := by
  obtain ⟨d, rfl⟩ : ∃ e, d = e + 1 := ⟨d - 1, by omega⟩
  replace hd : 8 ≤ d := by omega
  refine z_body ck_X11_sign rfl (Nat.le_of_ble_eq_true rfl) rfl hst ?_
  rw [fn_X11_sign]
  show Rn X m_X11_sign (d + 1) 0 [(0, .ref 0), (1, .int v1)] [] (Sh, D) _
  refine r_aload_n (pc := 0) 0 d_X11_sign_0 rfl rfl ?_
  refine r_iload_n (pc := 1) 1 d_X11_sign_1 rfl rfl ?_
  refine q_cN (f := (oXP Sh D)) (t := fun e1 => some (.inl e1)) (av := [.ref 0, .int v1]) (st := []) (z_runV ck_X11_needSign rfl ml_X11_205 ci_X11_needSign cv_X11_needSign (K_0 h0) (ci := 11) rfl rfl (Nat.le_of_ble_eq_true rfl) d_X11_sign_2) (s_X11_needSign hst h0 (by omega)) rfl kp_XP (fun _ _ => rfl) ?_
  refine r_aload_n (pc := 5) 0 d_X11_sign_5 rfl rfl ?_
  refine r_getR (pc := 6) g_X11_25 (K_0 h0) rfl (R_0_2 h0) d_X11_sign_6 ?_
  refine r_iload_n (pc := 9) 1 d_X11_sign_9 rfl rfl ?_
  refine q_cP (f := (oXP Sh D)) (av := [.ref 3, .int v1]) (st := []) (z_runV ck_X0_paintOf rfl ml_X11_208 ci_X0_paintOf cv_X0_paintOf (K_3 h0) (ci := 0) rfl rfl (Nat.le_of_ble_eq_true rfl) d_X11_sign_10) (s_X0_paintOf hst h0 (by omega) (I_3)) kp_XP (fun x3 _ => ?_)
  exact r_iret (pc := 13) rfl d_X11_sign_13
/-! CoveredSigns.family -/
theorem d_X11_family_0 : decode (yB m_X11_family) 0 = .ok (.aload_n 0, 1) := by decide +kernel
theorem d_X11_family_1 : decode (yB m_X11_family) 1 = .ok (.iload_n 1, 1) := by decide +kernel
theorem d_X11_family_2 : decode (yB m_X11_family) 2 = .ok (.invokevirtual 205, 3) := by decide +kernel
theorem d_X11_family_5 : decode (yB m_X11_family) 5 = .ok (.aload_n 0, 1) := by decide +kernel
theorem d_X11_family_6 : decode (yB m_X11_family) 6 = .ok (.getfield 25, 3) := by decide +kernel
theorem d_X11_family_9 : decode (yB m_X11_family) 9 = .ok (.iload_n 1, 1) := by decide +kernel
theorem d_X11_family_10 : decode (yB m_X11_family) 10 = .ok (.invokevirtual 212, 3) := by decide +kernel
theorem d_X11_family_13 : decode (yB m_X11_family) 13 = .ok (.ireturn, 1) := by decide +kernel
def fn_X11_family (v1 : Int32) (D : zD) : Option (Nat ⊕ Int32) := (fn_X11_needSign v1 D).bind fun e1 => if e1 = 0 then ((fn_X0_familyOf 3 v1 D).bind fun x3 => (some (.inr x3))) else some (.inl e1)
theorem s_X11_family {X : zX} {Sh : zSh} {d : Nat} (hst : (zl X).stackTraces = false) (h0 : zSh0 Sh) (hd : 9 ≤ d) {v1 : Int32} {D : zD} : Sd X m_X11_family d [.ref 0, .int v1] (Sh, D) ((oXP Sh D) (fn_X11_family v1 D)) := by
  obtain ⟨d, rfl⟩ : ∃ e, d = e + 1 := ⟨d - 1, by omega⟩
  replace hd : 8 ≤ d := by omega
  refine z_body ck_X11_family rfl (Nat.le_of_ble_eq_true rfl) rfl hst ?_
  rw [fn_X11_family]
  show Rn X m_X11_family (d + 1) 0 [(0, .ref 0), (1, .int v1)] [] (Sh, D) _
  refine r_aload_n (pc := 0) 0 d_X11_family_0 rfl rfl ?_
  refine r_iload_n (pc := 1) 1 d_X11_family_1 rfl rfl ?_
  refine q_cN (f := (oXP Sh D)) (t := fun e1 => some (.inl e1)) (av := [.ref 0, .int v1]) (st := []) (z_runV ck_X11_needSign rfl ml_X11_205 ci_X11_needSign cv_X11_needSign (K_0 h0) (ci := 11) rfl rfl (Nat.le_of_ble_eq_true rfl) d_X11_family_2) (s_X11_needSign hst h0 (by omega)) rfl kp_XP (fun _ _ => rfl) ?_
  refine r_aload_n (pc := 5) 0 d_X11_family_5 rfl rfl ?_
  refine r_getR (pc := 6) g_X11_25 (K_0 h0) rfl (R_0_2 h0) d_X11_family_6 ?_
  refine r_iload_n (pc := 9) 1 d_X11_family_9 rfl rfl ?_
  refine q_cP (f := (oXP Sh D)) (av := [.ref 3, .int v1]) (st := []) (z_runV ck_X0_familyOf rfl ml_X11_212 ci_X0_familyOf cv_X0_familyOf (K_3 h0) (ci := 0) rfl rfl (Nat.le_of_ble_eq_true rfl) d_X11_family_10) (s_X0_familyOf hst h0 (by omega) (I_3)) kp_XP (fun x3 _ => ?_)
  exact r_iret (pc := 13) rfl d_X11_family_13
/-! CoveredSigns.word -/
theorem d_X11_word_0 : decode (yB m_X11_word) 0 = .ok (.iload_n 1, 1) := by decide +kernel
theorem d_X11_word_1 : decode (yB m_X11_word) 1 = .ok (.ifCond .lt 14, 3) := by decide +kernel
theorem d_X11_word_4 : decode (yB m_X11_word) 4 = .ok (.iload_n 1, 1) := by decide +kernel
theorem d_X11_word_5 : decode (yB m_X11_word) 5 = .ok (.aload_n 0, 1) := by decide +kernel
theorem d_X11_word_6 : decode (yB m_X11_word) 6 = .ok (.getfield 25, 3) := by decide +kernel
theorem d_X11_word_9 : decode (yB m_X11_word) 9 = .ok (.getfield 192, 3) := by decide +kernel
theorem d_X11_word_12 : decode (yB m_X11_word) 12 = .ok (.if_icmp .lt 13, 3) := by decide +kernel
theorem d_X11_word_15 : decode (yB m_X11_word) 15 = .ok (.new 215, 3) := by decide +kernel
theorem d_X11_word_18 : decode (yB m_X11_word) 18 = .ok (.dup, 1) := by decide +kernel
theorem d_X11_word_19 : decode (yB m_X11_word) 19 = .ok (.ldc 217, 2) := by decide +kernel
theorem d_X11_word_21 : decode (yB m_X11_word) 21 = .ok (.invokespecial 219, 3) := by decide +kernel
theorem d_X11_word_24 : decode (yB m_X11_word) 24 = .ok (.athrow, 1) := by decide +kernel
theorem d_X11_word_25 : decode (yB m_X11_word) 25 = .ok (.iload_n 2, 1) := by decide +kernel
theorem d_X11_word_26 : decode (yB m_X11_word) 26 = .ok (.ifCond .lt 9, 3) := by decide +kernel
theorem d_X11_word_29 : decode (yB m_X11_word) 29 = .ok (.iload_n 2, 1) := by decide +kernel
theorem d_X11_word_30 : decode (yB m_X11_word) 30 = .ok (.bipush 6, 2) := by decide +kernel
theorem d_X11_word_32 : decode (yB m_X11_word) 32 = .ok (.if_icmp .lt 13, 3) := by decide +kernel
theorem d_X11_word_35 : decode (yB m_X11_word) 35 = .ok (.new 198, 3) := by decide +kernel
theorem d_X11_word_38 : decode (yB m_X11_word) 38 = .ok (.dup, 1) := by decide +kernel
theorem d_X11_word_39 : decode (yB m_X11_word) 39 = .ok (.ldc 220, 2) := by decide +kernel
theorem d_X11_word_41 : decode (yB m_X11_word) 41 = .ok (.invokespecial 202, 3) := by decide +kernel
theorem d_X11_word_44 : decode (yB m_X11_word) 44 = .ok (.athrow, 1) := by decide +kernel
theorem d_X11_word_45 : decode (yB m_X11_word) 45 = .ok (.aload_n 0, 1) := by decide +kernel
theorem d_X11_word_46 : decode (yB m_X11_word) 46 = .ok (.getfield 25, 3) := by decide +kernel
theorem d_X11_word_49 : decode (yB m_X11_word) 49 = .ok (.iload_n 1, 1) := by decide +kernel
theorem d_X11_word_50 : decode (yB m_X11_word) 50 = .ok (.iload_n 2, 1) := by decide +kernel
theorem d_X11_word_51 : decode (yB m_X11_word) 51 = .ok (.invokevirtual 222, 3) := by decide +kernel
theorem d_X11_word_54 : decode (yB m_X11_word) 54 = .ok (.ireturn, 1) := by decide +kernel
def fn_X11_word (v1 : Int32) (v2 : Int32) (D : zD) : Option (Nat ⊕ Int32) := (if v1 < 0 then ((some (.inl 2))) else ((if v1 < (gI D 3 3) then ((if v2 < 0 then ((some (.inl 1))) else ((if v2 < (6 : Int32) then ((fn_X0_letterOf 3 v1 v2 D).bind fun x5 => (some (.inr x5))) else ((some (.inl 1))))))) else ((some (.inl 2))))))
theorem s_X11_word {X : zX} {Sh : zSh} {d : Nat} (hst : (zl X).stackTraces = false) (h0 : zSh0 Sh) (hd : 8 ≤ d) {v1 : Int32} {v2 : Int32} {D : zD} : Sd X m_X11_word d [.ref 0, .int v1, .int v2] (Sh, D) ((oXP Sh D) (fn_X11_word v1 v2 D)) := by
  obtain ⟨d, rfl⟩ : ∃ e, d = e + 1 := ⟨d - 1, by omega⟩
  replace hd : 7 ≤ d := by omega
  refine z_body ck_X11_word rfl (Nat.le_of_ble_eq_true rfl) rfl hst ?_
  rw [fn_X11_word]
  show Rn X m_X11_word (d + 1) 0 [(0, .ref 0), (1, .int v1), (2, .int v2)] [] (Sh, D) _
  refine r_iload_n (pc := 0) 1 d_X11_word_0 rfl rfl ?_
  refine r_if_lt (f := (oXP Sh D)) (pc := 1) 15 d_X11_word_1 (by decide) (fun c1 => ?_) (fun c1 => ?_)
  · exact r_throw tw_X11_217 d_X11_word_15 d_X11_word_18 d_X11_word_19 d_X11_word_21 d_X11_word_24 rfl (by omega) (Nat.le_of_ble_eq_true rfl)
  · refine r_iload_n (pc := 4) 1 d_X11_word_4 rfl rfl ?_
    refine r_aload_n (pc := 5) 0 d_X11_word_5 rfl rfl ?_
    refine r_getR (pc := 6) g_X11_25 (K_0 h0) rfl (R_0_2 h0) d_X11_word_6 ?_
    refine q_gIn (pc := 9) g_X11_192 (K_3 h0) rfl d_X11_word_9 ?_
    refine r_icmp_lt (f := (oXP Sh D)) (pc := 12) 25 d_X11_word_12 (by decide) (fun c2 => ?_) (fun c2 => ?_)
    · refine r_iload_n (pc := 25) 2 d_X11_word_25 rfl rfl ?_
      refine r_if_lt (f := (oXP Sh D)) (pc := 26) 35 d_X11_word_26 (by decide) (fun c3 => ?_) (fun c3 => ?_)
      · exact r_throw tw_X11_220 d_X11_word_35 d_X11_word_38 d_X11_word_39 d_X11_word_41 d_X11_word_44 rfl (by omega) (Nat.le_of_ble_eq_true rfl)
      · refine r_iload_n (pc := 29) 2 d_X11_word_29 rfl rfl ?_
        refine r_bipush (pc := 30) (6 : Int32) d_X11_word_30 rfl ?_
        refine r_icmp_lt (f := (oXP Sh D)) (pc := 32) 45 d_X11_word_32 (by decide) (fun c4 => ?_) (fun c4 => ?_)
        · refine r_aload_n (pc := 45) 0 d_X11_word_45 rfl rfl ?_
          refine r_getR (pc := 46) g_X11_25 (K_0 h0) rfl (R_0_2 h0) d_X11_word_46 ?_
          refine r_iload_n (pc := 49) 1 d_X11_word_49 rfl rfl ?_
          refine r_iload_n (pc := 50) 2 d_X11_word_50 rfl rfl ?_
          refine q_cP (f := (oXP Sh D)) (av := [.ref 3, .int v1, .int v2]) (st := []) (z_runV ck_X0_letterOf rfl ml_X11_222 ci_X0_letterOf cv_X0_letterOf (K_3 h0) (ci := 0) rfl rfl (Nat.le_of_ble_eq_true rfl) d_X11_word_51) (s_X0_letterOf hst h0 (by omega) (I_3)) kp_XP (fun x5 _ => ?_)
          exact r_iret (pc := 54) rfl d_X11_word_54
        · exact r_throw tw_X11_220 d_X11_word_35 d_X11_word_38 d_X11_word_39 d_X11_word_41 d_X11_word_44 rfl (by omega) (Nat.le_of_ble_eq_true rfl)
    · exact r_throw tw_X11_217 d_X11_word_15 d_X11_word_18 d_X11_word_19 d_X11_word_21 d_X11_word_24 rfl (by omega) (Nat.le_of_ble_eq_true rfl)
/-! CoveredSigns.needCover -/
theorem d_X11_needCover_0 : decode (yB m_X11_needCover) 0 = .ok (.iload_n 1, 1) := by decide +kernel
theorem d_X11_needCover_1 : decode (yB m_X11_needCover) 1 = .ok (.ifCond .lt 14, 3) := by decide +kernel
theorem d_X11_needCover_4 : decode (yB m_X11_needCover) 4 = .ok (.iload_n 1, 1) := by decide +kernel
theorem d_X11_needCover_5 : decode (yB m_X11_needCover) 5 = .ok (.aload_n 0, 1) := by decide +kernel
theorem d_X11_needCover_6 : decode (yB m_X11_needCover) 6 = .ok (.getfield 41, 3) := by decide +kernel
theorem d_X11_needCover_9 : decode (yB m_X11_needCover) 9 = .ok (.getfield 186, 3) := by decide +kernel
theorem d_X11_needCover_12 : decode (yB m_X11_needCover) 12 = .ok (.if_icmp .lt 14, 3) := by decide +kernel
theorem d_X11_needCover_15 : decode (yB m_X11_needCover) 15 = .ok (.new 215, 3) := by decide +kernel
theorem d_X11_needCover_18 : decode (yB m_X11_needCover) 18 = .ok (.dup, 1) := by decide +kernel
theorem d_X11_needCover_19 : decode (yB m_X11_needCover) 19 = .ok (.ldc_w 391, 3) := by decide +kernel
theorem d_X11_needCover_22 : decode (yB m_X11_needCover) 22 = .ok (.invokespecial 219, 3) := by decide +kernel
theorem d_X11_needCover_25 : decode (yB m_X11_needCover) 25 = .ok (.athrow, 1) := by decide +kernel
theorem d_X11_needCover_26 : decode (yB m_X11_needCover) 26 = .ok (.return_, 1) := by decide +kernel
def fn_X11_needCover (v1 : Int32) (D : zD) : Option Nat := (if v1 < 0 then ((some 2)) else ((if v1 < (gI D 20 1) then ((some 0)) else ((some 2)))))
theorem s_X11_needCover {X : zX} {Sh : zSh} {d : Nat} (hst : (zl X).stackTraces = false) (h0 : zSh0 Sh) (hd : 8 ≤ d) {v1 : Int32} {D : zD} : Sd X m_X11_needCover d [.ref 0, .int v1] (Sh, D) ((oN Sh D) (fn_X11_needCover v1 D)) := by
  obtain ⟨d, rfl⟩ : ∃ e, d = e + 1 := ⟨d - 1, by omega⟩
  replace hd : 7 ≤ d := by omega
  refine z_body ck_X11_needCover rfl (Nat.le_of_ble_eq_true rfl) rfl hst ?_
  rw [fn_X11_needCover]
  show Rn X m_X11_needCover (d + 1) 0 [(0, .ref 0), (1, .int v1)] [] (Sh, D) _
  refine r_iload_n (pc := 0) 1 d_X11_needCover_0 rfl rfl ?_
  refine r_if_lt (f := (oN Sh D)) (pc := 1) 15 d_X11_needCover_1 (by decide) (fun c1 => ?_) (fun c1 => ?_)
  · exact r_throwW tw_X11_391 d_X11_needCover_15 d_X11_needCover_18 d_X11_needCover_19 d_X11_needCover_22 d_X11_needCover_25 rfl (by omega) (Nat.le_of_ble_eq_true rfl)
  · refine r_iload_n (pc := 4) 1 d_X11_needCover_4 rfl rfl ?_
    refine r_aload_n (pc := 5) 0 d_X11_needCover_5 rfl rfl ?_
    refine r_getR (pc := 6) g_X11_41 (K_0 h0) rfl (R_0_4 h0) d_X11_needCover_6 ?_
    refine q_gIn (pc := 9) g_X11_186 (K_20 h0) rfl d_X11_needCover_9 ?_
    refine r_icmp_lt (f := (oN Sh D)) (pc := 12) 26 d_X11_needCover_12 (by decide) (fun c2 => ?_) (fun c2 => ?_)
    · exact r_vret (pc := 26) rfl d_X11_needCover_26
    · exact r_throwW tw_X11_391 d_X11_needCover_15 d_X11_needCover_18 d_X11_needCover_19 d_X11_needCover_22 d_X11_needCover_25 rfl (by omega) (Nat.le_of_ble_eq_true rfl)
/-! CoveredSigns.cover -/
theorem d_X11_cover_0 : decode (yB m_X11_cover) 0 = .ok (.aload_n 0, 1) := by decide +kernel
theorem d_X11_cover_1 : decode (yB m_X11_cover) 1 = .ok (.iload_n 1, 1) := by decide +kernel
theorem d_X11_cover_2 : decode (yB m_X11_cover) 2 = .ok (.invokevirtual 226, 3) := by decide +kernel
theorem d_X11_cover_5 : decode (yB m_X11_cover) 5 = .ok (.aload_n 0, 1) := by decide +kernel
theorem d_X11_cover_6 : decode (yB m_X11_cover) 6 = .ok (.getfield 41, 3) := by decide +kernel
theorem d_X11_cover_9 : decode (yB m_X11_cover) 9 = .ok (.iload_n 1, 1) := by decide +kernel
theorem d_X11_cover_10 : decode (yB m_X11_cover) 10 = .ok (.invokevirtual 229, 3) := by decide +kernel
theorem d_X11_cover_13 : decode (yB m_X11_cover) 13 = .ok (.ireturn, 1) := by decide +kernel
def fn_X11_cover (v1 : Int32) (D : zD) : Option (Nat ⊕ Int32) := (fn_X11_needCover v1 D).bind fun e1 => if e1 = 0 then ((fn_X3_at 20 v1 D).bind fun x3 => (some (.inr x3))) else some (.inl e1)
theorem s_X11_cover {X : zX} {Sh : zSh} {d : Nat} (hst : (zl X).stackTraces = false) (h0 : zSh0 Sh) (hd : 9 ≤ d) {v1 : Int32} {D : zD} : Sd X m_X11_cover d [.ref 0, .int v1] (Sh, D) ((oXP Sh D) (fn_X11_cover v1 D)) := by
  obtain ⟨d, rfl⟩ : ∃ e, d = e + 1 := ⟨d - 1, by omega⟩
  replace hd : 8 ≤ d := by omega
  refine z_body ck_X11_cover rfl (Nat.le_of_ble_eq_true rfl) rfl hst ?_
  rw [fn_X11_cover]
  show Rn X m_X11_cover (d + 1) 0 [(0, .ref 0), (1, .int v1)] [] (Sh, D) _
  refine r_aload_n (pc := 0) 0 d_X11_cover_0 rfl rfl ?_
  refine r_iload_n (pc := 1) 1 d_X11_cover_1 rfl rfl ?_
  refine q_cN (f := (oXP Sh D)) (t := fun e1 => some (.inl e1)) (av := [.ref 0, .int v1]) (st := []) (z_runV ck_X11_needCover rfl ml_X11_226 ci_X11_needCover cv_X11_needCover (K_0 h0) (ci := 11) rfl rfl (Nat.le_of_ble_eq_true rfl) d_X11_cover_2) (s_X11_needCover hst h0 (by omega)) rfl kp_XP (fun _ _ => rfl) ?_
  refine r_aload_n (pc := 5) 0 d_X11_cover_5 rfl rfl ?_
  refine r_getR (pc := 6) g_X11_41 (K_0 h0) rfl (R_0_4 h0) d_X11_cover_6 ?_
  refine r_iload_n (pc := 9) 1 d_X11_cover_9 rfl rfl ?_
  refine q_cP (f := (oXP Sh D)) (av := [.ref 20, .int v1]) (st := []) (z_runV ck_X3_at rfl ml_X11_229 ci_X3_at cv_X3_at (K_20 h0) (ci := 3) rfl rfl (Nat.le_of_ble_eq_true rfl) d_X11_cover_10) (s_X3_at hst h0 (by omega) (I_20)) kp_XP (fun x3 _ => ?_)
  exact r_iret (pc := 13) rfl d_X11_cover_13
/-! CoveredSigns.dirt -/
theorem d_X11_dirt_0 : decode (yB m_X11_dirt) 0 = .ok (.iload_n 1, 1) := by decide +kernel
theorem d_X11_dirt_1 : decode (yB m_X11_dirt) 1 = .ok (.ifCond .lt 8, 3) := by decide +kernel
theorem d_X11_dirt_4 : decode (yB m_X11_dirt) 4 = .ok (.iload_n 1, 1) := by decide +kernel
theorem d_X11_dirt_5 : decode (yB m_X11_dirt) 5 = .ok (.iconst 3, 1) := by decide +kernel
theorem d_X11_dirt_6 : decode (yB m_X11_dirt) 6 = .ok (.if_icmp .le 13, 3) := by decide +kernel
theorem d_X11_dirt_9 : decode (yB m_X11_dirt) 9 = .ok (.new 198, 3) := by decide +kernel
theorem d_X11_dirt_12 : decode (yB m_X11_dirt) 12 = .ok (.dup, 1) := by decide +kernel
theorem d_X11_dirt_13 : decode (yB m_X11_dirt) 13 = .ok (.ldc 232, 2) := by decide +kernel
theorem d_X11_dirt_15 : decode (yB m_X11_dirt) 15 = .ok (.invokespecial 202, 3) := by decide +kernel
theorem d_X11_dirt_18 : decode (yB m_X11_dirt) 18 = .ok (.athrow, 1) := by decide +kernel
theorem d_X11_dirt_19 : decode (yB m_X11_dirt) 19 = .ok (.aload_n 0, 1) := by decide +kernel
theorem d_X11_dirt_20 : decode (yB m_X11_dirt) 20 = .ok (.getfield 55, 3) := by decide +kernel
theorem d_X11_dirt_23 : decode (yB m_X11_dirt) 23 = .ok (.getfield 195, 3) := by decide +kernel
theorem d_X11_dirt_26 : decode (yB m_X11_dirt) 26 = .ok (.istore_n 2, 1) := by decide +kernel
theorem d_X11_dirt_27 : decode (yB m_X11_dirt) 27 = .ok (.aload_n 0, 1) := by decide +kernel
theorem d_X11_dirt_28 : decode (yB m_X11_dirt) 28 = .ok (.getfield 55, 3) := by decide +kernel
theorem d_X11_dirt_31 : decode (yB m_X11_dirt) 31 = .ok (.iload_n 1, 1) := by decide +kernel
theorem d_X11_dirt_32 : decode (yB m_X11_dirt) 32 = .ok (.putfield 195, 3) := by decide +kernel
theorem d_X11_dirt_35 : decode (yB m_X11_dirt) 35 = .ok (.iload_n 1, 1) := by decide +kernel
theorem d_X11_dirt_36 : decode (yB m_X11_dirt) 36 = .ok (.iload_n 2, 1) := by decide +kernel
theorem d_X11_dirt_37 : decode (yB m_X11_dirt) 37 = .ok (.if_icmp .eq 7, 3) := by decide +kernel
theorem d_X11_dirt_40 : decode (yB m_X11_dirt) 40 = .ok (.aload_n 0, 1) := by decide +kernel
theorem d_X11_dirt_41 : decode (yB m_X11_dirt) 41 = .ok (.invokevirtual 160, 3) := by decide +kernel
theorem d_X11_dirt_44 : decode (yB m_X11_dirt) 44 = .ok (.iload_n 2, 1) := by decide +kernel
theorem d_X11_dirt_45 : decode (yB m_X11_dirt) 45 = .ok (.ireturn, 1) := by decide +kernel
def fn_X11_dirt (v1 : Int32) (D : zD) : Option ((Nat ⊕ Int32) × zD) := (if v1 < 0 then ((some (.inl 1, D))) else ((if v1 ≤ (3 : Int32) then (zlet (gI D 57 0) fun x3 => zlet (sI D 57 0 v1) fun D4 => (if v1 = x3 then ((some (.inr x3, D4))) else ((fn_X11_renew D4).bind fun D6 => (some (.inr x3, D6))))) else ((some (.inl 1, D))))))
theorem s_X11_dirt {X : zX} {Sh : zSh} {d : Nat} (hst : (zl X).stackTraces = false) (h0 : zSh0 Sh) (hd : 8 ≤ d) {v1 : Int32} {D : zD} : Sd X m_X11_dirt d [.ref 0, .int v1] (Sh, D) ((oXI Sh) (fn_X11_dirt v1 D)) := by
  obtain ⟨d, rfl⟩ : ∃ e, d = e + 1 := ⟨d - 1, by omega⟩
  replace hd : 7 ≤ d := by omega
  refine z_body ck_X11_dirt rfl (Nat.le_of_ble_eq_true rfl) rfl hst ?_
  rw [fn_X11_dirt]
  show Rn X m_X11_dirt (d + 1) 0 [(0, .ref 0), (1, .int v1)] [] (Sh, D) _
  refine r_iload_n (pc := 0) 1 d_X11_dirt_0 rfl rfl ?_
  refine r_if_lt (f := (oXI Sh)) (pc := 1) 9 d_X11_dirt_1 (by decide) (fun c1 => ?_) (fun c1 => ?_)
  · exact r_throw tw_X11_232 d_X11_dirt_9 d_X11_dirt_12 d_X11_dirt_13 d_X11_dirt_15 d_X11_dirt_18 rfl (by omega) (Nat.le_of_ble_eq_true rfl)
  · refine r_iload_n (pc := 4) 1 d_X11_dirt_4 rfl rfl ?_
    refine r_iconst (pc := 5) (3 : Int32) d_X11_dirt_5 rfl ?_
    refine r_icmp_le (f := (oXI Sh)) (pc := 6) 19 d_X11_dirt_6 (by decide) (fun c2 => ?_) (fun c2 => ?_)
    · refine r_aload_n (pc := 19) 0 d_X11_dirt_19 rfl rfl ?_
      refine r_getR (pc := 20) g_X11_55 (K_0 h0) rfl (R_0_6 h0) d_X11_dirt_20 ?_
      refine q_gIn (pc := 23) g_X11_195 (K_57 h0) rfl d_X11_dirt_23 ?_
      refine r_leti (f := (oXI Sh)) (fun x3 => ?_)
      refine r_istore_n (pc := 26) (ls' := [(2, .int x3), (0, .ref 0), (1, .int v1)]) d_X11_dirt_26 rfl (Nat.le_of_ble_eq_true rfl) rfl ?_
      refine r_aload_n (pc := 27) 1 d_X11_dirt_27 rfl rfl ?_
      refine r_getR (pc := 28) g_X11_55 (K_0 h0) rfl (R_0_6 h0) d_X11_dirt_28 ?_
      refine r_iload_n (pc := 31) 2 d_X11_dirt_31 rfl rfl ?_
      refine r_putIn (pc := 32) p_X11_195 (K_57 h0) rfl (Or.inl rfl) d_X11_dirt_32 ?_
      refine r_letD (f := (oXI Sh)) (fun D4 => ?_)
      refine r_iload_n (pc := 35) 2 d_X11_dirt_35 rfl rfl ?_
      refine r_iload_n (pc := 36) 0 d_X11_dirt_36 rfl rfl ?_
      refine r_icmp_eq (f := (oXI Sh)) (pc := 37) 44 d_X11_dirt_37 (by decide) (fun c5 => ?_) (fun c5 => ?_)
      · refine r_iload_n (pc := 44) 0 d_X11_dirt_44 rfl rfl ?_
        exact r_iret (pc := 45) rfl d_X11_dirt_45
      · refine r_aload_n (pc := 40) 1 d_X11_dirt_40 rfl rfl ?_
        refine q_cV (f := (oXI Sh)) (av := [.ref 0]) (st := []) (z_runV ck_X11_renew rfl ml_X11_160 ci_X11_renew cv_X11_renew (K_0 h0) (ci := 11) rfl rfl (Nat.le_of_ble_eq_true rfl) d_X11_dirt_41) (s_X11_renew hst h0 (by omega)) kp_XI (fun D6 _ => ?_)
        refine r_iload_n (pc := 44) 0 d_X11_dirt_44 rfl rfl ?_
        exact r_iret (pc := 45) rfl d_X11_dirt_45
    · exact r_throw tw_X11_232 d_X11_dirt_9 d_X11_dirt_12 d_X11_dirt_13 d_X11_dirt_15 d_X11_dirt_18 rfl (by omega) (Nat.le_of_ble_eq_true rfl)
/-! CoveredSigns.confused -/
theorem d_X11_confused_0 : decode (yB m_X11_confused) 0 = .ok (.aload_n 0, 1) := by decide +kernel
theorem d_X11_confused_1 : decode (yB m_X11_confused) 1 = .ok (.iload_n 1, 1) := by decide +kernel
theorem d_X11_confused_2 : decode (yB m_X11_confused) 2 = .ok (.invokevirtual 205, 3) := by decide +kernel
theorem d_X11_confused_5 : decode (yB m_X11_confused) 5 = .ok (.aload_n 0, 1) := by decide +kernel
theorem d_X11_confused_6 : decode (yB m_X11_confused) 6 = .ok (.iload_n 2, 1) := by decide +kernel
theorem d_X11_confused_7 : decode (yB m_X11_confused) 7 = .ok (.invokevirtual 205, 3) := by decide +kernel
theorem d_X11_confused_10 : decode (yB m_X11_confused) 10 = .ok (.iload_n 1, 1) := by decide +kernel
theorem d_X11_confused_11 : decode (yB m_X11_confused) 11 = .ok (.iload_n 2, 1) := by decide +kernel
theorem d_X11_confused_12 : decode (yB m_X11_confused) 12 = .ok (.if_icmp .ne 13, 3) := by decide +kernel
theorem d_X11_confused_15 : decode (yB m_X11_confused) 15 = .ok (.new 198, 3) := by decide +kernel
theorem d_X11_confused_18 : decode (yB m_X11_confused) 18 = .ok (.dup, 1) := by decide +kernel
theorem d_X11_confused_19 : decode (yB m_X11_confused) 19 = .ok (.ldc 234, 2) := by decide +kernel
theorem d_X11_confused_21 : decode (yB m_X11_confused) 21 = .ok (.invokespecial 202, 3) := by decide +kernel
theorem d_X11_confused_24 : decode (yB m_X11_confused) 24 = .ok (.athrow, 1) := by decide +kernel
theorem d_X11_confused_25 : decode (yB m_X11_confused) 25 = .ok (.aload_n 0, 1) := by decide +kernel
theorem d_X11_confused_26 : decode (yB m_X11_confused) 26 = .ok (.getfield 41, 3) := by decide +kernel
theorem d_X11_confused_29 : decode (yB m_X11_confused) 29 = .ok (.aload_n 0, 1) := by decide +kernel
theorem d_X11_confused_30 : decode (yB m_X11_confused) 30 = .ok (.getfield 25, 3) := by decide +kernel
theorem d_X11_confused_33 : decode (yB m_X11_confused) 33 = .ok (.iload_n 1, 1) := by decide +kernel
theorem d_X11_confused_34 : decode (yB m_X11_confused) 34 = .ok (.invokevirtual 208, 3) := by decide +kernel
theorem d_X11_confused_37 : decode (yB m_X11_confused) 37 = .ok (.aload_n 0, 1) := by decide +kernel
theorem d_X11_confused_38 : decode (yB m_X11_confused) 38 = .ok (.getfield 25, 3) := by decide +kernel
theorem d_X11_confused_41 : decode (yB m_X11_confused) 41 = .ok (.iload_n 2, 1) := by decide +kernel
theorem d_X11_confused_42 : decode (yB m_X11_confused) 42 = .ok (.invokevirtual 208, 3) := by decide +kernel
theorem d_X11_confused_45 : decode (yB m_X11_confused) 45 = .ok (.ixor, 1) := by decide +kernel
theorem d_X11_confused_46 : decode (yB m_X11_confused) 46 = .ok (.iconst 2, 1) := by decide +kernel
theorem d_X11_confused_47 : decode (yB m_X11_confused) 47 = .ok (.aload_n 0, 1) := by decide +kernel
theorem d_X11_confused_48 : decode (yB m_X11_confused) 48 = .ok (.getfield 55, 3) := by decide +kernel
theorem d_X11_confused_51 : decode (yB m_X11_confused) 51 = .ok (.getfield 195, 3) := by decide +kernel
theorem d_X11_confused_54 : decode (yB m_X11_confused) 54 = .ok (.imul, 1) := by decide +kernel
theorem d_X11_confused_55 : decode (yB m_X11_confused) 55 = .ok (.invokevirtual 236, 3) := by decide +kernel
theorem d_X11_confused_58 : decode (yB m_X11_confused) 58 = .ok (.ireturn, 1) := by decide +kernel
def fn_X11_confused (v1 : Int32) (v2 : Int32) (D : zD) : Option (Nat ⊕ Int32) := (fn_X11_needSign v1 D).bind fun e1 => if e1 = 0 then ((fn_X11_needSign v2 D).bind fun e3 => if e3 = 0 then ((if v1 = v2 then ((some (.inl 1))) else ((fn_X0_paintOf 3 v1 D).bind fun x6 => (fn_X0_paintOf 3 v2 D).bind fun x7 => (fn_X3_firstMixing 20 (x6 ^^^ x7) ((2 : Int32) * (gI D 57 0)) D).bind fun x8 => (some (.inr x8))))) else some (.inl e3)) else some (.inl e1)
theorem s_X11_confused {X : zX} {Sh : zSh} {d : Nat} (hst : (zl X).stackTraces = false) (h0 : zSh0 Sh) (hd : 9 ≤ d) {v1 : Int32} {v2 : Int32} {D : zD} : Sd X m_X11_confused d [.ref 0, .int v1, .int v2] (Sh, D) ((oXP Sh D) (fn_X11_confused v1 v2 D)) := by
  obtain ⟨d, rfl⟩ : ∃ e, d = e + 1 := ⟨d - 1, by omega⟩
  replace hd : 8 ≤ d := by omega
  refine z_body ck_X11_confused rfl (Nat.le_of_ble_eq_true rfl) rfl hst ?_
  rw [fn_X11_confused]
  show Rn X m_X11_confused (d + 1) 0 [(0, .ref 0), (1, .int v1), (2, .int v2)] [] (Sh, D) _
  refine r_aload_n (pc := 0) 0 d_X11_confused_0 rfl rfl ?_
  refine r_iload_n (pc := 1) 1 d_X11_confused_1 rfl rfl ?_
  refine q_cN (f := (oXP Sh D)) (t := fun e1 => some (.inl e1)) (av := [.ref 0, .int v1]) (st := []) (z_runV ck_X11_needSign rfl ml_X11_205 ci_X11_needSign cv_X11_needSign (K_0 h0) (ci := 11) rfl rfl (Nat.le_of_ble_eq_true rfl) d_X11_confused_2) (s_X11_needSign hst h0 (by omega)) rfl kp_XP (fun _ _ => rfl) ?_
  refine r_aload_n (pc := 5) 0 d_X11_confused_5 rfl rfl ?_
  refine r_iload_n (pc := 6) 2 d_X11_confused_6 rfl rfl ?_
  refine q_cN (f := (oXP Sh D)) (t := fun e3 => some (.inl e3)) (av := [.ref 0, .int v2]) (st := []) (z_runV ck_X11_needSign rfl ml_X11_205 ci_X11_needSign cv_X11_needSign (K_0 h0) (ci := 11) rfl rfl (Nat.le_of_ble_eq_true rfl) d_X11_confused_7) (s_X11_needSign hst h0 (by omega)) rfl kp_XP (fun _ _ => rfl) ?_
  refine r_iload_n (pc := 10) 1 d_X11_confused_10 rfl rfl ?_
  refine r_iload_n (pc := 11) 2 d_X11_confused_11 rfl rfl ?_
  refine r_icmp_ne (f := (oXP Sh D)) (pc := 12) 25 d_X11_confused_12 (by decide) (fun c5 => ?_) (fun c5 => ?_)
  · refine r_aload_n (pc := 25) 0 d_X11_confused_25 rfl rfl ?_
    refine r_getR (pc := 26) g_X11_41 (K_0 h0) rfl (R_0_4 h0) d_X11_confused_26 ?_
    refine r_aload_n (pc := 29) 0 d_X11_confused_29 rfl rfl ?_
    refine r_getR (pc := 30) g_X11_25 (K_0 h0) rfl (R_0_2 h0) d_X11_confused_30 ?_
    refine r_iload_n (pc := 33) 1 d_X11_confused_33 rfl rfl ?_
    refine q_cP (f := (oXP Sh D)) (av := [.ref 3, .int v1]) (st := [.ref 20]) (z_runV ck_X0_paintOf rfl ml_X11_208 ci_X0_paintOf cv_X0_paintOf (K_3 h0) (ci := 0) rfl rfl (Nat.le_of_ble_eq_true rfl) d_X11_confused_34) (s_X0_paintOf hst h0 (by omega) (I_3)) kp_XP (fun x6 _ => ?_)
    refine r_aload_n (pc := 37) 0 d_X11_confused_37 rfl rfl ?_
    refine r_getR (pc := 38) g_X11_25 (K_0 h0) rfl (R_0_2 h0) d_X11_confused_38 ?_
    refine r_iload_n (pc := 41) 2 d_X11_confused_41 rfl rfl ?_
    refine q_cP (f := (oXP Sh D)) (av := [.ref 3, .int v2]) (st := [.int x6, .ref 20]) (z_runV ck_X0_paintOf rfl ml_X11_208 ci_X0_paintOf cv_X0_paintOf (K_3 h0) (ci := 0) rfl rfl (Nat.le_of_ble_eq_true rfl) d_X11_confused_42) (s_X0_paintOf hst h0 (by omega) (I_3)) kp_XP (fun x7 _ => ?_)
    refine r_ixor (pc := 45) d_X11_confused_45 ?_
    refine r_iconst (pc := 46) (2 : Int32) d_X11_confused_46 rfl ?_
    refine r_aload_n (pc := 47) 0 d_X11_confused_47 rfl rfl ?_
    refine r_getR (pc := 48) g_X11_55 (K_0 h0) rfl (R_0_6 h0) d_X11_confused_48 ?_
    refine q_gIn (pc := 51) g_X11_195 (K_57 h0) rfl d_X11_confused_51 ?_
    refine r_imul (pc := 54) d_X11_confused_54 ?_
    refine q_cP (f := (oXP Sh D)) (av := [.ref 20, .int (x6 ^^^ x7), .int ((2 : Int32) * (gI D 57 0))]) (st := []) (z_runV ck_X3_firstMixing rfl ml_X11_236 ci_X3_firstMixing cv_X3_firstMixing (K_20 h0) (ci := 3) rfl rfl (Nat.le_of_ble_eq_true rfl) d_X11_confused_55) (s_X3_firstMixing hst h0 (by omega) (I_20)) kp_XP (fun x8 _ => ?_)
    exact r_iret (pc := 58) rfl d_X11_confused_58
  · exact r_throw tw_X11_234 d_X11_confused_15 d_X11_confused_18 d_X11_confused_19 d_X11_confused_21 d_X11_confused_24 rfl (by omega) (Nat.le_of_ble_eq_true rfl)
/-! CoveredSigns.weave -/
theorem d_X11_weave_0 : decode (yB m_X11_weave) 0 = .ok (.aload_n 0, 1) := by decide +kernel
theorem d_X11_weave_1 : decode (yB m_X11_weave) 1 = .ok (.getfield 404, 3) := by decide +kernel
theorem d_X11_weave_4 : decode (yB m_X11_weave) 4 = .ok (.ifCond .ne 28, 3) := by decide +kernel
theorem d_X11_weave_7 : decode (yB m_X11_weave) 7 = .ok (.aload_n 0, 1) := by decide +kernel
theorem d_X11_weave_8 : decode (yB m_X11_weave) 8 = .ok (.getfield 73, 3) := by decide +kernel
theorem d_X11_weave_11 : decode (yB m_X11_weave) 11 = .ok (.aload_n 0, 1) := by decide +kernel
theorem d_X11_weave_12 : decode (yB m_X11_weave) 12 = .ok (.getfield 25, 3) := by decide +kernel
theorem d_X11_weave_15 : decode (yB m_X11_weave) 15 = .ok (.iconst 2, 1) := by decide +kernel
theorem d_X11_weave_16 : decode (yB m_X11_weave) 16 = .ok (.aload_n 0, 1) := by decide +kernel
theorem d_X11_weave_17 : decode (yB m_X11_weave) 17 = .ok (.getfield 55, 3) := by decide +kernel
theorem d_X11_weave_20 : decode (yB m_X11_weave) 20 = .ok (.getfield 195, 3) := by decide +kernel
theorem d_X11_weave_23 : decode (yB m_X11_weave) 23 = .ok (.imul, 1) := by decide +kernel
theorem d_X11_weave_24 : decode (yB m_X11_weave) 24 = .ok (.invokevirtual 408, 3) := by decide +kernel
theorem d_X11_weave_27 : decode (yB m_X11_weave) 27 = .ok (.aload_n 0, 1) := by decide +kernel
theorem d_X11_weave_28 : decode (yB m_X11_weave) 28 = .ok (.iconst 1, 1) := by decide +kernel
theorem d_X11_weave_29 : decode (yB m_X11_weave) 29 = .ok (.putfield 404, 3) := by decide +kernel
theorem d_X11_weave_32 : decode (yB m_X11_weave) 32 = .ok (.return_, 1) := by decide +kernel
def fn_X11_weave (D : zD) : Option zD := (if (gI D 0 16) = 0 then ((fn_X10_weave 81 3 ((2 : Int32) * (gI D 57 0)) D).bind fun D2 => zlet (sI D2 0 16 (1 : Int32)) fun D3 => (some D3)) else ((some D)))
theorem s_X11_weave {X : zX} {Sh : zSh} {d : Nat} (hst : (zl X).stackTraces = false) (h0 : zSh0 Sh) (hd : 5 ≤ d)  {D : zD} : Sd X m_X11_weave d [.ref 0] (Sh, D) ((oV Sh) (fn_X11_weave D)) := by
  obtain ⟨d, rfl⟩ : ∃ e, d = e + 1 := ⟨d - 1, by omega⟩
  replace hd : 4 ≤ d := by omega
  refine z_body ck_X11_weave rfl (Nat.le_of_ble_eq_true rfl) rfl hst ?_
  rw [fn_X11_weave]
  show Rn X m_X11_weave (d + 1) 0 [(0, .ref 0)] [] (Sh, D) _
  refine r_aload_n (pc := 0) 0 d_X11_weave_0 rfl rfl ?_
  refine q_gI (pc := 1) g_X11_404 (K_0 h0) rfl d_X11_weave_1 ?_
  refine r_if_ne (f := (oV Sh)) (pc := 4) 32 d_X11_weave_4 (by decide) (fun c1 => ?_) (fun c1 => ?_)
  · exact r_vret (pc := 32) rfl d_X11_weave_32
  · refine r_aload_n (pc := 7) 0 d_X11_weave_7 rfl rfl ?_
    refine r_getR (pc := 8) g_X11_73 (K_0 h0) rfl (R_0_10 h0) d_X11_weave_8 ?_
    refine r_aload_n (pc := 11) 0 d_X11_weave_11 rfl rfl ?_
    refine r_getR (pc := 12) g_X11_25 (K_0 h0) rfl (R_0_2 h0) d_X11_weave_12 ?_
    refine r_iconst (pc := 15) (2 : Int32) d_X11_weave_15 rfl ?_
    refine r_aload_n (pc := 16) 0 d_X11_weave_16 rfl rfl ?_
    refine r_getR (pc := 17) g_X11_55 (K_0 h0) rfl (R_0_6 h0) d_X11_weave_17 ?_
    refine q_gIn (pc := 20) g_X11_195 (K_57 h0) rfl d_X11_weave_20 ?_
    refine r_imul (pc := 23) d_X11_weave_23 ?_
    refine q_cV (f := (oV Sh)) (av := [.ref 81, .ref 3, .int ((2 : Int32) * (gI D 57 0))]) (st := []) (z_runV ck_X10_weave rfl ml_X11_408 ci_X10_weave cv_X10_weave (K_81 h0) (ci := 10) rfl rfl (Nat.le_of_ble_eq_true rfl) d_X11_weave_24) (s_X10_weave hst h0 (by omega) (I_81) (I_3)) kp_V (fun D2 _ => ?_)
    refine r_aload_n (pc := 27) 0 d_X11_weave_27 rfl rfl ?_
    refine r_iconst (pc := 28) (1 : Int32) d_X11_weave_28 rfl ?_
    refine r_putI (pc := 29) p_X11_404 (K_0 h0) rfl (Or.inr ⟨rfl, by decide⟩) d_X11_weave_29 ?_
    refine r_letD (f := (oV Sh)) (fun D3 => ?_)
    exact r_vret (pc := 32) rfl d_X11_weave_32
/-! CoveredSigns.confusions -/
theorem d_X11_confusions_0 : decode (yB m_X11_confusions) 0 = .ok (.aload_n 0, 1) := by decide +kernel
theorem d_X11_confusions_1 : decode (yB m_X11_confusions) 1 = .ok (.invokevirtual 239, 3) := by decide +kernel
theorem d_X11_confusions_4 : decode (yB m_X11_confusions) 4 = .ok (.aload_n 0, 1) := by decide +kernel
theorem d_X11_confusions_5 : decode (yB m_X11_confusions) 5 = .ok (.getfield 73, 3) := by decide +kernel
theorem d_X11_confusions_8 : decode (yB m_X11_confusions) 8 = .ok (.getfield 242, 3) := by decide +kernel
theorem d_X11_confusions_11 : decode (yB m_X11_confusions) 11 = .ok (.ireturn, 1) := by decide +kernel
def fn_X11_confusions (D : zD) : Option (Int32 × zD) := (fn_X11_weave D).bind fun D1 => (some ((gI D1 81 7), D1))
theorem s_X11_confusions {X : zX} {Sh : zSh} {d : Nat} (hst : (zl X).stackTraces = false) (h0 : zSh0 Sh) (hd : 6 ≤ d)  {D : zD} : Sd X m_X11_confusions d [.ref 0] (Sh, D) ((oI Sh) (fn_X11_confusions D)) := by
  obtain ⟨d, rfl⟩ : ∃ e, d = e + 1 := ⟨d - 1, by omega⟩
  replace hd : 5 ≤ d := by omega
  refine z_body ck_X11_confusions rfl (Nat.le_of_ble_eq_true rfl) rfl hst ?_
  rw [fn_X11_confusions]
  show Rn X m_X11_confusions (d + 1) 0 [(0, .ref 0)] [] (Sh, D) _
  refine r_aload_n (pc := 0) 0 d_X11_confusions_0 rfl rfl ?_
  refine q_cV (f := (oI Sh)) (av := [.ref 0]) (st := []) (z_runV ck_X11_weave rfl ml_X11_239 ci_X11_weave cv_X11_weave (K_0 h0) (ci := 11) rfl rfl (Nat.le_of_ble_eq_true rfl) d_X11_confusions_1) (s_X11_weave hst h0 (by omega)) kp_I (fun D1 _ => ?_)
  refine r_aload_n (pc := 4) 0 d_X11_confusions_4 rfl rfl ?_
  refine r_getR (pc := 5) g_X11_73 (K_0 h0) rfl (R_0_10 h0) d_X11_confusions_5 ?_
  refine q_gIn (pc := 8) g_X11_242 (K_81 h0) rfl d_X11_confusions_8 ?_
  exact r_iret (pc := 11) rfl d_X11_confusions_11
/-! CoveredSigns.keep -/
theorem d_X11_keep_0 : decode (yB m_X11_keep) 0 = .ok (.iload_n 1, 1) := by decide +kernel
theorem d_X11_keep_1 : decode (yB m_X11_keep) 1 = .ok (.ifCond .lt 19, 3) := by decide +kernel
theorem d_X11_keep_4 : decode (yB m_X11_keep) 4 = .ok (.iload_n 1, 1) := by decide +kernel
theorem d_X11_keep_5 : decode (yB m_X11_keep) 5 = .ok (.aload_n 0, 1) := by decide +kernel
theorem d_X11_keep_6 : decode (yB m_X11_keep) 6 = .ok (.getfield 107, 3) := by decide +kernel
theorem d_X11_keep_9 : decode (yB m_X11_keep) 9 = .ok (.arraylength, 1) := by decide +kernel
theorem d_X11_keep_10 : decode (yB m_X11_keep) 10 = .ok (.if_icmp .ge 10, 3) := by decide +kernel
theorem d_X11_keep_13 : decode (yB m_X11_keep) 13 = .ok (.aload_n 0, 1) := by decide +kernel
theorem d_X11_keep_14 : decode (yB m_X11_keep) 14 = .ok (.getfield 107, 3) := by decide +kernel
theorem d_X11_keep_17 : decode (yB m_X11_keep) 17 = .ok (.iload_n 1, 1) := by decide +kernel
theorem d_X11_keep_18 : decode (yB m_X11_keep) 18 = .ok (.iload_n 2, 1) := by decide +kernel
theorem d_X11_keep_19 : decode (yB m_X11_keep) 19 = .ok (.iastore, 1) := by decide +kernel
theorem d_X11_keep_20 : decode (yB m_X11_keep) 20 = .ok (.return_, 1) := by decide +kernel
def fn_X11_keep (v1 : Int32) (v2 : Int32) (D : zD) : Option zD := (if v1 < 0 then ((some D)) else ((if (Int32.ofNat 34) ≤ v1 then ((some D)) else (zck v1 34 <| zlet (sI D 101 v1.toNatClampNeg v2) fun D4 => (some D4)))))
theorem s_X11_keep {X : zX} {Sh : zSh} {d : Nat} (hst : (zl X).stackTraces = false) (h0 : zSh0 Sh) (hd : 1 ≤ d) {v1 : Int32} {v2 : Int32} {D : zD} : Sd X m_X11_keep d [.ref 0, .int v1, .int v2] (Sh, D) ((oV Sh) (fn_X11_keep v1 v2 D)) := by
  obtain ⟨d, rfl⟩ : ∃ e, d = e + 1 := ⟨d - 1, by omega⟩
  replace hd : 0 ≤ d := by omega
  refine z_body ck_X11_keep rfl (Nat.le_of_ble_eq_true rfl) rfl hst ?_
  rw [fn_X11_keep]
  show Rn X m_X11_keep (d + 1) 0 [(0, .ref 0), (1, .int v1), (2, .int v2)] [] (Sh, D) _
  refine r_iload_n (pc := 0) 1 d_X11_keep_0 rfl rfl ?_
  refine r_if_lt (f := (oV Sh)) (pc := 1) 20 d_X11_keep_1 (by decide) (fun c1 => ?_) (fun c1 => ?_)
  · exact r_vret (pc := 20) rfl d_X11_keep_20
  · refine r_iload_n (pc := 4) 1 d_X11_keep_4 rfl rfl ?_
    refine r_aload_n (pc := 5) 0 d_X11_keep_5 rfl rfl ?_
    refine r_getR (pc := 6) g_X11_107 (K_0 h0) rfl (R_0_15 h0) d_X11_keep_6 ?_
    refine r_alen (pc := 9) (K_101 h0) (by decide) d_X11_keep_9 ?_
    refine r_icmp_ge (f := (oV Sh)) (pc := 10) 20 d_X11_keep_10 (by decide) (fun c2 => ?_) (fun c2 => ?_)
    · exact r_vret (pc := 20) rfl d_X11_keep_20
    · refine r_aload_n (pc := 13) 0 d_X11_keep_13 rfl rfl ?_
      refine r_getR (pc := 14) g_X11_107 (K_0 h0) rfl (R_0_15 h0) d_X11_keep_14 ?_
      refine r_iload_n (pc := 17) 1 d_X11_keep_17 rfl rfl ?_
      refine r_iload_n (pc := 18) 2 d_X11_keep_18 rfl rfl ?_
      refine r_ck (f := (oV Sh)) rfl (fun hc3 => ?_)
      refine q_iast (pc := 19) (j := v1.toNatClampNeg) (K_101 h0) hc3 rfl  d_X11_keep_19 ?_
      refine r_letD (f := (oV Sh)) (fun D4 => ?_)
      exact r_vret (pc := 20) rfl d_X11_keep_20
/-! CoveredSigns.keptAt -/
theorem d_X11_keptAt_0 : decode (yB m_X11_keptAt) 0 = .ok (.iload_n 1, 1) := by decide +kernel
theorem d_X11_keptAt_1 : decode (yB m_X11_keptAt) 1 = .ok (.ifCond .lt 21, 3) := by decide +kernel
theorem d_X11_keptAt_4 : decode (yB m_X11_keptAt) 4 = .ok (.iload_n 1, 1) := by decide +kernel
theorem d_X11_keptAt_5 : decode (yB m_X11_keptAt) 5 = .ok (.aload_n 0, 1) := by decide +kernel
theorem d_X11_keptAt_6 : decode (yB m_X11_keptAt) 6 = .ok (.getfield 107, 3) := by decide +kernel
theorem d_X11_keptAt_9 : decode (yB m_X11_keptAt) 9 = .ok (.arraylength, 1) := by decide +kernel
theorem d_X11_keptAt_10 : decode (yB m_X11_keptAt) 10 = .ok (.if_icmp .ge 12, 3) := by decide +kernel
theorem d_X11_keptAt_13 : decode (yB m_X11_keptAt) 13 = .ok (.aload_n 0, 1) := by decide +kernel
theorem d_X11_keptAt_14 : decode (yB m_X11_keptAt) 14 = .ok (.getfield 107, 3) := by decide +kernel
theorem d_X11_keptAt_17 : decode (yB m_X11_keptAt) 17 = .ok (.iload_n 1, 1) := by decide +kernel
theorem d_X11_keptAt_18 : decode (yB m_X11_keptAt) 18 = .ok (.iaload, 1) := by decide +kernel
theorem d_X11_keptAt_19 : decode (yB m_X11_keptAt) 19 = .ok (.goto 4, 3) := by decide +kernel
theorem d_X11_keptAt_22 : decode (yB m_X11_keptAt) 22 = .ok (.iconst (-1), 1) := by decide +kernel
theorem d_X11_keptAt_23 : decode (yB m_X11_keptAt) 23 = .ok (.ireturn, 1) := by decide +kernel
def fn_X11_keptAt (v1 : Int32) (D : zD) : Option Int32 := (if v1 < 0 then ((some (-1 : Int32))) else ((if (Int32.ofNat 34) ≤ v1 then ((some (-1 : Int32))) else (zck v1 34 <| (some (gI D 101 v1.toNatClampNeg))))))
theorem s_X11_keptAt {X : zX} {Sh : zSh} {d : Nat} (hst : (zl X).stackTraces = false) (h0 : zSh0 Sh) (hd : 1 ≤ d) {v1 : Int32} {D : zD} : Sd X m_X11_keptAt d [.ref 0, .int v1] (Sh, D) ((oP Sh D) (fn_X11_keptAt v1 D)) := by
  obtain ⟨d, rfl⟩ : ∃ e, d = e + 1 := ⟨d - 1, by omega⟩
  replace hd : 0 ≤ d := by omega
  refine z_body ck_X11_keptAt rfl (Nat.le_of_ble_eq_true rfl) rfl hst ?_
  rw [fn_X11_keptAt]
  show Rn X m_X11_keptAt (d + 1) 0 [(0, .ref 0), (1, .int v1)] [] (Sh, D) _
  refine r_iload_n (pc := 0) 1 d_X11_keptAt_0 rfl rfl ?_
  refine r_if_lt (f := (oP Sh D)) (pc := 1) 22 d_X11_keptAt_1 (by decide) (fun c1 => ?_) (fun c1 => ?_)
  · refine r_iconst (pc := 22) (-1 : Int32) d_X11_keptAt_22 rfl ?_
    exact r_iret (pc := 23) rfl d_X11_keptAt_23
  · refine r_iload_n (pc := 4) 1 d_X11_keptAt_4 rfl rfl ?_
    refine r_aload_n (pc := 5) 0 d_X11_keptAt_5 rfl rfl ?_
    refine r_getR (pc := 6) g_X11_107 (K_0 h0) rfl (R_0_15 h0) d_X11_keptAt_6 ?_
    refine r_alen (pc := 9) (K_101 h0) (by decide) d_X11_keptAt_9 ?_
    refine r_icmp_ge (f := (oP Sh D)) (pc := 10) 22 d_X11_keptAt_10 (by decide) (fun c2 => ?_) (fun c2 => ?_)
    · refine r_iconst (pc := 22) (-1 : Int32) d_X11_keptAt_22 rfl ?_
      exact r_iret (pc := 23) rfl d_X11_keptAt_23
    · refine r_aload_n (pc := 13) 0 d_X11_keptAt_13 rfl rfl ?_
      refine r_getR (pc := 14) g_X11_107 (K_0 h0) rfl (R_0_15 h0) d_X11_keptAt_14 ?_
      refine r_iload_n (pc := 17) 1 d_X11_keptAt_17 rfl rfl ?_
      refine r_ck (f := (oP Sh D)) rfl (fun hc3 => ?_)
      refine q_iald (pc := 18) (j := v1.toNatClampNeg) (K_101 h0) hc3 rfl d_X11_keptAt_18 ?_
      refine r_goto (pc := 19) 23 d_X11_keptAt_19 (by decide) ?_
      exact r_iret (pc := 23) rfl d_X11_keptAt_23
/-! CoveredSigns.needWhat -/
theorem d_X11_needWhat_0 : decode (yB m_X11_needWhat) 0 = .ok (.iload_n 1, 1) := by decide +kernel
theorem d_X11_needWhat_1 : decode (yB m_X11_needWhat) 1 = .ok (.ifCond .lt 8, 3) := by decide +kernel
theorem d_X11_needWhat_4 : decode (yB m_X11_needWhat) 4 = .ok (.iload_n 1, 1) := by decide +kernel
theorem d_X11_needWhat_5 : decode (yB m_X11_needWhat) 5 = .ok (.iload_n 2, 1) := by decide +kernel
theorem d_X11_needWhat_6 : decode (yB m_X11_needWhat) 6 = .ok (.if_icmp .le 14, 3) := by decide +kernel
theorem d_X11_needWhat_9 : decode (yB m_X11_needWhat) 9 = .ok (.new 198, 3) := by decide +kernel
theorem d_X11_needWhat_12 : decode (yB m_X11_needWhat) 12 = .ok (.dup, 1) := by decide +kernel
theorem d_X11_needWhat_13 : decode (yB m_X11_needWhat) 13 = .ok (.ldc_w 402, 3) := by decide +kernel
theorem d_X11_needWhat_16 : decode (yB m_X11_needWhat) 16 = .ok (.invokespecial 202, 3) := by decide +kernel
theorem d_X11_needWhat_19 : decode (yB m_X11_needWhat) 19 = .ok (.athrow, 1) := by decide +kernel
theorem d_X11_needWhat_20 : decode (yB m_X11_needWhat) 20 = .ok (.return_, 1) := by decide +kernel
def fn_X11_needWhat (v1 : Int32) (v2 : Int32) : Option Nat := (if v1 < 0 then ((some 1)) else ((if v1 ≤ v2 then ((some 0)) else ((some 1)))))
theorem s_X11_needWhat {X : zX} {Sh : zSh} {d : Nat} (hst : (zl X).stackTraces = false) (h0 : zSh0 Sh) (hd : 8 ≤ d) {v1 : Int32} {v2 : Int32} {D : zD} : Sd X m_X11_needWhat d [.ref 0, .int v1, .int v2] (Sh, D) ((oN Sh D) (fn_X11_needWhat v1 v2)) := by
  obtain ⟨d, rfl⟩ : ∃ e, d = e + 1 := ⟨d - 1, by omega⟩
  replace hd : 7 ≤ d := by omega
  refine z_body ck_X11_needWhat rfl (Nat.le_of_ble_eq_true rfl) rfl hst ?_
  rw [fn_X11_needWhat]
  show Rn X m_X11_needWhat (d + 1) 0 [(0, .ref 0), (1, .int v1), (2, .int v2)] [] (Sh, D) _
  refine r_iload_n (pc := 0) 1 d_X11_needWhat_0 rfl rfl ?_
  refine r_if_lt (f := (oN Sh D)) (pc := 1) 9 d_X11_needWhat_1 (by decide) (fun c1 => ?_) (fun c1 => ?_)
  · exact r_throwW tw_X11_402 d_X11_needWhat_9 d_X11_needWhat_12 d_X11_needWhat_13 d_X11_needWhat_16 d_X11_needWhat_19 rfl (by omega) (Nat.le_of_ble_eq_true rfl)
  · refine r_iload_n (pc := 4) 1 d_X11_needWhat_4 rfl rfl ?_
    refine r_iload_n (pc := 5) 2 d_X11_needWhat_5 rfl rfl ?_
    refine r_icmp_le (f := (oN Sh D)) (pc := 6) 20 d_X11_needWhat_6 (by decide) (fun c2 => ?_) (fun c2 => ?_)
    · exact r_vret (pc := 20) rfl d_X11_needWhat_20
    · exact r_throwW tw_X11_402 d_X11_needWhat_9 d_X11_needWhat_12 d_X11_needWhat_13 d_X11_needWhat_16 d_X11_needWhat_19 rfl (by omega) (Nat.le_of_ble_eq_true rfl)
/-! CoveredSigns.blind -/
theorem d_X11_blind_0 : decode (yB m_X11_blind) 0 = .ok (.aload_n 0, 1) := by decide +kernel
theorem d_X11_blind_1 : decode (yB m_X11_blind) 1 = .ok (.iload_n 1, 1) := by decide +kernel
theorem d_X11_blind_2 : decode (yB m_X11_blind) 2 = .ok (.iconst 1, 1) := by decide +kernel
theorem d_X11_blind_3 : decode (yB m_X11_blind) 3 = .ok (.invokevirtual 245, 3) := by decide +kernel
theorem d_X11_blind_6 : decode (yB m_X11_blind) 6 = .ok (.aload_n 0, 1) := by decide +kernel
theorem d_X11_blind_7 : decode (yB m_X11_blind) 7 = .ok (.iconst 0, 1) := by decide +kernel
theorem d_X11_blind_8 : decode (yB m_X11_blind) 8 = .ok (.invokevirtual 249, 3) := by decide +kernel
theorem d_X11_blind_11 : decode (yB m_X11_blind) 11 = .ok (.ldc 115, 2) := by decide +kernel
theorem d_X11_blind_13 : decode (yB m_X11_blind) 13 = .ok (.if_icmp .ne 56, 3) := by decide +kernel
theorem d_X11_blind_16 : decode (yB m_X11_blind) 16 = .ok (.aload_n 0, 1) := by decide +kernel
theorem d_X11_blind_17 : decode (yB m_X11_blind) 17 = .ok (.getfield 41, 3) := by decide +kernel
theorem d_X11_blind_20 : decode (yB m_X11_blind) 20 = .ok (.aload_n 0, 1) := by decide +kernel
theorem d_X11_blind_21 : decode (yB m_X11_blind) 21 = .ok (.getfield 25, 3) := by decide +kernel
theorem d_X11_blind_24 : decode (yB m_X11_blind) 24 = .ok (.iconst 2, 1) := by decide +kernel
theorem d_X11_blind_25 : decode (yB m_X11_blind) 25 = .ok (.aload_n 0, 1) := by decide +kernel
theorem d_X11_blind_26 : decode (yB m_X11_blind) 26 = .ok (.getfield 55, 3) := by decide +kernel
theorem d_X11_blind_29 : decode (yB m_X11_blind) 29 = .ok (.getfield 195, 3) := by decide +kernel
theorem d_X11_blind_32 : decode (yB m_X11_blind) 32 = .ok (.imul, 1) := by decide +kernel
theorem d_X11_blind_33 : decode (yB m_X11_blind) 33 = .ok (.invokevirtual 252, 3) := by decide +kernel
theorem d_X11_blind_36 : decode (yB m_X11_blind) 36 = .ok (.istore_n 2, 1) := by decide +kernel
theorem d_X11_blind_37 : decode (yB m_X11_blind) 37 = .ok (.aload_n 0, 1) := by decide +kernel
theorem d_X11_blind_38 : decode (yB m_X11_blind) 38 = .ok (.iconst 0, 1) := by decide +kernel
theorem d_X11_blind_39 : decode (yB m_X11_blind) 39 = .ok (.iload_n 2, 1) := by decide +kernel
theorem d_X11_blind_40 : decode (yB m_X11_blind) 40 = .ok (.invokevirtual 256, 3) := by decide +kernel
theorem d_X11_blind_43 : decode (yB m_X11_blind) 43 = .ok (.aload_n 0, 1) := by decide +kernel
theorem d_X11_blind_44 : decode (yB m_X11_blind) 44 = .ok (.iconst 1, 1) := by decide +kernel
theorem d_X11_blind_45 : decode (yB m_X11_blind) 45 = .ok (.aload_n 0, 1) := by decide +kernel
theorem d_X11_blind_46 : decode (yB m_X11_blind) 46 = .ok (.getfield 41, 3) := by decide +kernel
theorem d_X11_blind_49 : decode (yB m_X11_blind) 49 = .ok (.iload_n 2, 1) := by decide +kernel
theorem d_X11_blind_50 : decode (yB m_X11_blind) 50 = .ok (.aload_n 0, 1) := by decide +kernel
theorem d_X11_blind_51 : decode (yB m_X11_blind) 51 = .ok (.getfield 25, 3) := by decide +kernel
theorem d_X11_blind_54 : decode (yB m_X11_blind) 54 = .ok (.iconst 2, 1) := by decide +kernel
theorem d_X11_blind_55 : decode (yB m_X11_blind) 55 = .ok (.aload_n 0, 1) := by decide +kernel
theorem d_X11_blind_56 : decode (yB m_X11_blind) 56 = .ok (.getfield 55, 3) := by decide +kernel
theorem d_X11_blind_59 : decode (yB m_X11_blind) 59 = .ok (.getfield 195, 3) := by decide +kernel
theorem d_X11_blind_62 : decode (yB m_X11_blind) 62 = .ok (.imul, 1) := by decide +kernel
theorem d_X11_blind_63 : decode (yB m_X11_blind) 63 = .ok (.invokevirtual 259, 3) := by decide +kernel
theorem d_X11_blind_66 : decode (yB m_X11_blind) 66 = .ok (.invokevirtual 256, 3) := by decide +kernel
theorem d_X11_blind_69 : decode (yB m_X11_blind) 69 = .ok (.aload_n 0, 1) := by decide +kernel
theorem d_X11_blind_70 : decode (yB m_X11_blind) 70 = .ok (.iconst 0, 1) := by decide +kernel
theorem d_X11_blind_71 : decode (yB m_X11_blind) 71 = .ok (.iload_n 1, 1) := by decide +kernel
theorem d_X11_blind_72 : decode (yB m_X11_blind) 72 = .ok (.iadd, 1) := by decide +kernel
theorem d_X11_blind_73 : decode (yB m_X11_blind) 73 = .ok (.invokevirtual 249, 3) := by decide +kernel
theorem d_X11_blind_76 : decode (yB m_X11_blind) 76 = .ok (.ireturn, 1) := by decide +kernel
def fn_X11_blind_69 (v1 : Int32) (D : zD) : Option ((Nat ⊕ Int32) × zD) := (fn_X11_keptAt ((0 : Int32) + v1) D).bind fun x5 => (some (.inr x5, D))
def fn_X11_blind (v1 : Int32) (D : zD) : Option ((Nat ⊕ Int32) × zD) := (fn_X11_needWhat v1 (1 : Int32)).bind fun e1 => if e1 = 0 then ((fn_X11_keptAt (0 : Int32) D).bind fun x3 => (if x3 = (-1000000 : Int32) then ((fn_X3_blindest 20 3 ((2 : Int32) * (gI D 57 0)) D).bind fun x6 => (fn_X11_keep (0 : Int32) x6 D).bind fun D7 => (fn_X3_pairsMixedBy 20 x6 3 ((2 : Int32) * (gI D7 57 0)) D7).bind fun x8 => (fn_X11_keep (1 : Int32) x8 D7).bind fun D9 => (fn_X11_blind_69 v1 D9)) else ((fn_X11_blind_69 v1 D)))) else some (.inl e1, D)
theorem s_X11_blind_69 {X : zX} {Sh : zSh} {d : Nat} (hst : (zl X).stackTraces = false) (h0 : zSh0 Sh) (hd : 8 ≤ d) {v1 : Int32}  (D : zD)  : Rn X m_X11_blind (d + 1) 69 [(0, .ref 0), (1, .int v1)] [] (Sh, D) ((oXI Sh) (fn_X11_blind_69 v1 D)) := by
  rw [fn_X11_blind_69]
  refine r_aload_n (pc := 69) 0 d_X11_blind_69 rfl rfl ?_
  refine r_iconst (pc := 70) (0 : Int32) d_X11_blind_70 rfl ?_
  refine r_iload_n (pc := 71) 1 d_X11_blind_71 rfl rfl ?_
  refine r_iadd (pc := 72) d_X11_blind_72 ?_
  refine q_cP (f := (oXI Sh)) (av := [.ref 0, .int ((0 : Int32) + v1)]) (st := []) (z_runV ck_X11_keptAt rfl ml_X11_249 ci_X11_keptAt cv_X11_keptAt (K_0 h0) (ci := 11) rfl rfl (Nat.le_of_ble_eq_true rfl) d_X11_blind_73) (s_X11_keptAt hst h0 (by omega)) kp_XI (fun x5 _ => ?_)
  exact r_iret (pc := 76) rfl d_X11_blind_76
theorem s_X11_blind {X : zX} {Sh : zSh} {d : Nat} (hst : (zl X).stackTraces = false) (h0 : zSh0 Sh) (hd : 9 ≤ d) {v1 : Int32} {D : zD} : Sd X m_X11_blind d [.ref 0, .int v1] (Sh, D) ((oXI Sh) (fn_X11_blind v1 D)) := by
  obtain ⟨d, rfl⟩ : ∃ e, d = e + 1 := ⟨d - 1, by omega⟩
  replace hd : 8 ≤ d := by omega
  refine z_body ck_X11_blind rfl (Nat.le_of_ble_eq_true rfl) rfl hst ?_
  rw [fn_X11_blind]
  show Rn X m_X11_blind (d + 1) 0 [(0, .ref 0), (1, .int v1)] [] (Sh, D) _
  refine r_aload_n (pc := 0) 0 d_X11_blind_0 rfl rfl ?_
  refine r_iload_n (pc := 1) 1 d_X11_blind_1 rfl rfl ?_
  refine r_iconst (pc := 2) (1 : Int32) d_X11_blind_2 rfl ?_
  refine q_cN (f := (oXI Sh)) (t := fun e1 => some (.inl e1, D)) (av := [.ref 0, .int v1, .int (1 : Int32)]) (st := []) (z_runV ck_X11_needWhat rfl ml_X11_245 ci_X11_needWhat cv_X11_needWhat (K_0 h0) (ci := 11) rfl rfl (Nat.le_of_ble_eq_true rfl) d_X11_blind_3) (s_X11_needWhat hst h0 (by omega)) rfl kp_XI (fun _ _ => rfl) ?_
  refine r_aload_n (pc := 6) 0 d_X11_blind_6 rfl rfl ?_
  refine r_iconst (pc := 7) (0 : Int32) d_X11_blind_7 rfl ?_
  refine q_cP (f := (oXI Sh)) (av := [.ref 0, .int (0 : Int32)]) (st := []) (z_runV ck_X11_keptAt rfl ml_X11_249 ci_X11_keptAt cv_X11_keptAt (K_0 h0) (ci := 11) rfl rfl (Nat.le_of_ble_eq_true rfl) d_X11_blind_8) (s_X11_keptAt hst h0 (by omega)) kp_XI (fun x3 _ => ?_)
  refine r_ldc (pc := 11) d_X11_blind_11 cc_X11_115 ?_
  refine r_icmp_ne (f := (oXI Sh)) (pc := 13) 69 d_X11_blind_13 (by decide) (fun c4 => ?_) (fun c4 => ?_)
  · refine r_pick [0, 1] (ls' := [(0, .ref 0), (1, .int v1)]) rfl ?_
    exact s_X11_blind_69 hst h0 hd D
  · refine r_aload_n (pc := 16) 0 d_X11_blind_16 rfl rfl ?_
    refine r_getR (pc := 17) g_X11_41 (K_0 h0) rfl (R_0_4 h0) d_X11_blind_17 ?_
    refine r_aload_n (pc := 20) 0 d_X11_blind_20 rfl rfl ?_
    refine r_getR (pc := 21) g_X11_25 (K_0 h0) rfl (R_0_2 h0) d_X11_blind_21 ?_
    refine r_iconst (pc := 24) (2 : Int32) d_X11_blind_24 rfl ?_
    refine r_aload_n (pc := 25) 0 d_X11_blind_25 rfl rfl ?_
    refine r_getR (pc := 26) g_X11_55 (K_0 h0) rfl (R_0_6 h0) d_X11_blind_26 ?_
    refine q_gIn (pc := 29) g_X11_195 (K_57 h0) rfl d_X11_blind_29 ?_
    refine r_imul (pc := 32) d_X11_blind_32 ?_
    refine q_cP (f := (oXI Sh)) (av := [.ref 20, .ref 3, .int ((2 : Int32) * (gI D 57 0))]) (st := []) (z_runV ck_X3_blindest rfl ml_X11_252 ci_X3_blindest cv_X3_blindest (K_20 h0) (ci := 3) rfl rfl (Nat.le_of_ble_eq_true rfl) d_X11_blind_33) (s_X3_blindest hst h0 (by omega) (I_20) (I_3)) kp_XI (fun x6 _ => ?_)
    refine r_istore_n (pc := 36) (ls' := [(2, .int x6), (0, .ref 0), (1, .int v1)]) d_X11_blind_36 rfl (Nat.le_of_ble_eq_true rfl) rfl ?_
    refine r_aload_n (pc := 37) 1 d_X11_blind_37 rfl rfl ?_
    refine r_iconst (pc := 38) (0 : Int32) d_X11_blind_38 rfl ?_
    refine r_iload_n (pc := 39) 0 d_X11_blind_39 rfl rfl ?_
    refine q_cV (f := (oXI Sh)) (av := [.ref 0, .int (0 : Int32), .int x6]) (st := []) (z_runV ck_X11_keep rfl ml_X11_256 ci_X11_keep cv_X11_keep (K_0 h0) (ci := 11) rfl rfl (Nat.le_of_ble_eq_true rfl) d_X11_blind_40) (s_X11_keep hst h0 (by omega)) kp_XI (fun D7 _ => ?_)
    refine r_aload_n (pc := 43) 1 d_X11_blind_43 rfl rfl ?_
    refine r_iconst (pc := 44) (1 : Int32) d_X11_blind_44 rfl ?_
    refine r_aload_n (pc := 45) 1 d_X11_blind_45 rfl rfl ?_
    refine r_getR (pc := 46) g_X11_41 (K_0 h0) rfl (R_0_4 h0) d_X11_blind_46 ?_
    refine r_iload_n (pc := 49) 0 d_X11_blind_49 rfl rfl ?_
    refine r_aload_n (pc := 50) 1 d_X11_blind_50 rfl rfl ?_
    refine r_getR (pc := 51) g_X11_25 (K_0 h0) rfl (R_0_2 h0) d_X11_blind_51 ?_
    refine r_iconst (pc := 54) (2 : Int32) d_X11_blind_54 rfl ?_
    refine r_aload_n (pc := 55) 1 d_X11_blind_55 rfl rfl ?_
    refine r_getR (pc := 56) g_X11_55 (K_0 h0) rfl (R_0_6 h0) d_X11_blind_56 ?_
    refine q_gIn (pc := 59) g_X11_195 (K_57 h0) rfl d_X11_blind_59 ?_
    refine r_imul (pc := 62) d_X11_blind_62 ?_
    refine q_cP (f := (oXI Sh)) (av := [.ref 20, .int x6, .ref 3, .int ((2 : Int32) * (gI D7 57 0))]) (st := [.int (1 : Int32), .ref 0]) (z_runV ck_X3_pairsMixedBy rfl ml_X11_259 ci_X3_pairsMixedBy cv_X3_pairsMixedBy (K_20 h0) (ci := 3) rfl rfl (Nat.le_of_ble_eq_true rfl) d_X11_blind_63) (s_X3_pairsMixedBy hst h0 (by omega) (I_20) (I_3)) kp_XI (fun x8 _ => ?_)
    refine q_cV (f := (oXI Sh)) (av := [.ref 0, .int (1 : Int32), .int x8]) (st := []) (z_runV ck_X11_keep rfl ml_X11_256 ci_X11_keep cv_X11_keep (K_0 h0) (ci := 11) rfl rfl (Nat.le_of_ble_eq_true rfl) d_X11_blind_66) (s_X11_keep hst h0 (by omega)) kp_XI (fun D9 _ => ?_)
    refine r_pick [1, 2] (ls' := [(0, .ref 0), (1, .int v1)]) rfl ?_
    exact s_X11_blind_69 hst h0 hd D9
/-! CoveredSigns.needPart -/
theorem d_X11_needPart_0 : decode (yB m_X11_needPart) 0 = .ok (.aload_n 0, 1) := by decide +kernel
theorem d_X11_needPart_1 : decode (yB m_X11_needPart) 1 = .ok (.iload_n 1, 1) := by decide +kernel
theorem d_X11_needPart_2 : decode (yB m_X11_needPart) 2 = .ok (.invokevirtual 226, 3) := by decide +kernel
theorem d_X11_needPart_5 : decode (yB m_X11_needPart) 5 = .ok (.iload_n 2, 1) := by decide +kernel
theorem d_X11_needPart_6 : decode (yB m_X11_needPart) 6 = .ok (.aload_n 0, 1) := by decide +kernel
theorem d_X11_needPart_7 : decode (yB m_X11_needPart) 7 = .ok (.getfield 25, 3) := by decide +kernel
theorem d_X11_needPart_10 : decode (yB m_X11_needPart) 10 = .ok (.invokevirtual 393, 3) := by decide +kernel
theorem d_X11_needPart_13 : decode (yB m_X11_needPart) 13 = .ok (.iconst (-1), 1) := by decide +kernel
theorem d_X11_needPart_14 : decode (yB m_X11_needPart) 14 = .ok (.ixor, 1) := by decide +kernel
theorem d_X11_needPart_15 : decode (yB m_X11_needPart) 15 = .ok (.iand, 1) := by decide +kernel
theorem d_X11_needPart_16 : decode (yB m_X11_needPart) 16 = .ok (.ifCond .eq 14, 3) := by decide +kernel
theorem d_X11_needPart_19 : decode (yB m_X11_needPart) 19 = .ok (.new 198, 3) := by decide +kernel
theorem d_X11_needPart_22 : decode (yB m_X11_needPart) 22 = .ok (.dup, 1) := by decide +kernel
theorem d_X11_needPart_23 : decode (yB m_X11_needPart) 23 = .ok (.ldc_w 396, 3) := by decide +kernel
theorem d_X11_needPart_26 : decode (yB m_X11_needPart) 26 = .ok (.invokespecial 202, 3) := by decide +kernel
theorem d_X11_needPart_29 : decode (yB m_X11_needPart) 29 = .ok (.athrow, 1) := by decide +kernel
theorem d_X11_needPart_30 : decode (yB m_X11_needPart) 30 = .ok (.return_, 1) := by decide +kernel
def fn_X11_needPart (v1 : Int32) (v2 : Int32) (D : zD) : Option Nat := (fn_X11_needCover v1 D).bind fun e1 => if e1 = 0 then ((fn_X0_board 3 D).bind fun x3 => (if (v2 &&& (x3 ^^^ (-1 : Int32))) = 0 then ((some 0)) else ((some 1)))) else some e1
theorem s_X11_needPart {X : zX} {Sh : zSh} {d : Nat} (hst : (zl X).stackTraces = false) (h0 : zSh0 Sh) (hd : 9 ≤ d) {v1 : Int32} {v2 : Int32} {D : zD} : Sd X m_X11_needPart d [.ref 0, .int v1, .int v2] (Sh, D) ((oN Sh D) (fn_X11_needPart v1 v2 D)) := by
  obtain ⟨d, rfl⟩ : ∃ e, d = e + 1 := ⟨d - 1, by omega⟩
  replace hd : 8 ≤ d := by omega
  refine z_body ck_X11_needPart rfl (Nat.le_of_ble_eq_true rfl) rfl hst ?_
  rw [fn_X11_needPart]
  show Rn X m_X11_needPart (d + 1) 0 [(0, .ref 0), (1, .int v1), (2, .int v2)] [] (Sh, D) _
  refine r_aload_n (pc := 0) 0 d_X11_needPart_0 rfl rfl ?_
  refine r_iload_n (pc := 1) 1 d_X11_needPart_1 rfl rfl ?_
  refine q_cN (f := (oN Sh D)) (t := fun e1 => some e1) (av := [.ref 0, .int v1]) (st := []) (z_runV ck_X11_needCover rfl ml_X11_226 ci_X11_needCover cv_X11_needCover (K_0 h0) (ci := 11) rfl rfl (Nat.le_of_ble_eq_true rfl) d_X11_needPart_2) (s_X11_needCover hst h0 (by omega)) rfl kp_N (fun _ h => by simp [oN, h]) ?_
  refine r_iload_n (pc := 5) 2 d_X11_needPart_5 rfl rfl ?_
  refine r_aload_n (pc := 6) 0 d_X11_needPart_6 rfl rfl ?_
  refine r_getR (pc := 7) g_X11_25 (K_0 h0) rfl (R_0_2 h0) d_X11_needPart_7 ?_
  refine q_cP (f := (oN Sh D)) (av := [.ref 3]) (st := [.int v2]) (z_runV ck_X0_board rfl ml_X11_393 ci_X0_board cv_X0_board (K_3 h0) (ci := 0) rfl rfl (Nat.le_of_ble_eq_true rfl) d_X11_needPart_10) (s_X0_board hst h0 (by omega) (I_3)) kp_N (fun x3 _ => ?_)
  refine r_iconst (pc := 13) (-1 : Int32) d_X11_needPart_13 rfl ?_
  refine r_ixor (pc := 14) d_X11_needPart_14 ?_
  refine r_iand (pc := 15) d_X11_needPart_15 ?_
  refine r_if_eq (f := (oN Sh D)) (pc := 16) 30 d_X11_needPart_16 (by decide) (fun c4 => ?_) (fun c4 => ?_)
  · exact r_vret (pc := 30) rfl d_X11_needPart_30
  · exact r_throwW tw_X11_396 d_X11_needPart_19 d_X11_needPart_22 d_X11_needPart_23 d_X11_needPart_26 d_X11_needPart_29 rfl (by omega) (Nat.le_of_ble_eq_true rfl)
/-! CoveredSigns.may -/
theorem d_X11_may_0 : decode (yB m_X11_may) 0 = .ok (.aload_n 0, 1) := by decide +kernel
theorem d_X11_may_1 : decode (yB m_X11_may) 1 = .ok (.iload_n 1, 1) := by decide +kernel
theorem d_X11_may_2 : decode (yB m_X11_may) 2 = .ok (.iload_n 2, 1) := by decide +kernel
theorem d_X11_may_3 : decode (yB m_X11_may) 3 = .ok (.invokevirtual 263, 3) := by decide +kernel
theorem d_X11_may_6 : decode (yB m_X11_may) 6 = .ok (.aload_n 0, 1) := by decide +kernel
theorem d_X11_may_7 : decode (yB m_X11_may) 7 = .ok (.getfield 25, 3) := by decide +kernel
theorem d_X11_may_10 : decode (yB m_X11_may) 10 = .ok (.aload_n 0, 1) := by decide +kernel
theorem d_X11_may_11 : decode (yB m_X11_may) 11 = .ok (.getfield 41, 3) := by decide +kernel
theorem d_X11_may_14 : decode (yB m_X11_may) 14 = .ok (.iload_n 1, 1) := by decide +kernel
theorem d_X11_may_15 : decode (yB m_X11_may) 15 = .ok (.invokevirtual 229, 3) := by decide +kernel
theorem d_X11_may_18 : decode (yB m_X11_may) 18 = .ok (.iload_n 2, 1) := by decide +kernel
theorem d_X11_may_19 : decode (yB m_X11_may) 19 = .ok (.aload_n 0, 1) := by decide +kernel
theorem d_X11_may_20 : decode (yB m_X11_may) 20 = .ok (.getfield 55, 3) := by decide +kernel
theorem d_X11_may_23 : decode (yB m_X11_may) 23 = .ok (.getfield 195, 3) := by decide +kernel
theorem d_X11_may_26 : decode (yB m_X11_may) 26 = .ok (.invokevirtual 266, 3) := by decide +kernel
theorem d_X11_may_29 : decode (yB m_X11_may) 29 = .ok (.ireturn, 1) := by decide +kernel
def fn_X11_may (v1 : Int32) (v2 : Int32) (D : zD) : Option (Nat ⊕ Int32) := (fn_X11_needPart v1 v2 D).bind fun e1 => if e1 = 0 then ((fn_X3_at 20 v1 D).bind fun x3 => (fn_X0_within 3 x3 v2 (gI D 57 0) D).bind fun x4 => (some (.inr x4))) else some (.inl e1)
theorem s_X11_may {X : zX} {Sh : zSh} {d : Nat} (hst : (zl X).stackTraces = false) (h0 : zSh0 Sh) (hd : 10 ≤ d) {v1 : Int32} {v2 : Int32} {D : zD} : Sd X m_X11_may d [.ref 0, .int v1, .int v2] (Sh, D) ((oXP Sh D) (fn_X11_may v1 v2 D)) := by
  obtain ⟨d, rfl⟩ : ∃ e, d = e + 1 := ⟨d - 1, by omega⟩
  replace hd : 9 ≤ d := by omega
  refine z_body ck_X11_may rfl (Nat.le_of_ble_eq_true rfl) rfl hst ?_
  rw [fn_X11_may]
  show Rn X m_X11_may (d + 1) 0 [(0, .ref 0), (1, .int v1), (2, .int v2)] [] (Sh, D) _
  refine r_aload_n (pc := 0) 0 d_X11_may_0 rfl rfl ?_
  refine r_iload_n (pc := 1) 1 d_X11_may_1 rfl rfl ?_
  refine r_iload_n (pc := 2) 2 d_X11_may_2 rfl rfl ?_
  refine q_cN (f := (oXP Sh D)) (t := fun e1 => some (.inl e1)) (av := [.ref 0, .int v1, .int v2]) (st := []) (z_runV ck_X11_needPart rfl ml_X11_263 ci_X11_needPart cv_X11_needPart (K_0 h0) (ci := 11) rfl rfl (Nat.le_of_ble_eq_true rfl) d_X11_may_3) (s_X11_needPart hst h0 (by omega)) rfl kp_XP (fun _ _ => rfl) ?_
  refine r_aload_n (pc := 6) 0 d_X11_may_6 rfl rfl ?_
  refine r_getR (pc := 7) g_X11_25 (K_0 h0) rfl (R_0_2 h0) d_X11_may_7 ?_
  refine r_aload_n (pc := 10) 0 d_X11_may_10 rfl rfl ?_
  refine r_getR (pc := 11) g_X11_41 (K_0 h0) rfl (R_0_4 h0) d_X11_may_11 ?_
  refine r_iload_n (pc := 14) 1 d_X11_may_14 rfl rfl ?_
  refine q_cP (f := (oXP Sh D)) (av := [.ref 20, .int v1]) (st := [.ref 3]) (z_runV ck_X3_at rfl ml_X11_229 ci_X3_at cv_X3_at (K_20 h0) (ci := 3) rfl rfl (Nat.le_of_ble_eq_true rfl) d_X11_may_15) (s_X3_at hst h0 (by omega) (I_20)) kp_XP (fun x3 _ => ?_)
  refine r_iload_n (pc := 18) 2 d_X11_may_18 rfl rfl ?_
  refine r_aload_n (pc := 19) 0 d_X11_may_19 rfl rfl ?_
  refine r_getR (pc := 20) g_X11_55 (K_0 h0) rfl (R_0_6 h0) d_X11_may_20 ?_
  refine q_gIn (pc := 23) g_X11_195 (K_57 h0) rfl d_X11_may_23 ?_
  refine q_cP (f := (oXP Sh D)) (av := [.ref 3, .int x3, .int v2, .int (gI D 57 0)]) (st := []) (z_runV ck_X0_within rfl ml_X11_266 ci_X0_within cv_X0_within (K_3 h0) (ci := 0) rfl rfl (Nat.le_of_ble_eq_true rfl) d_X11_may_26) (s_X0_within hst h0 (by omega) (I_3)) kp_XP (fun x4 _ => ?_)
  exact r_iret (pc := 29) rfl d_X11_may_29
/-! CoveredSigns.onlyOne -/
theorem d_X11_onlyOne_0 : decode (yB m_X11_onlyOne) 0 = .ok (.iload_n 0, 1) := by decide +kernel
theorem d_X11_onlyOne_1 : decode (yB m_X11_onlyOne) 1 = .ok (.invokestatic 295, 3) := by decide +kernel
theorem d_X11_onlyOne_4 : decode (yB m_X11_onlyOne) 4 = .ok (.iconst 1, 1) := by decide +kernel
theorem d_X11_onlyOne_5 : decode (yB m_X11_onlyOne) 5 = .ok (.if_icmp .eq 5, 3) := by decide +kernel
theorem d_X11_onlyOne_8 : decode (yB m_X11_onlyOne) 8 = .ok (.iconst (-1), 1) := by decide +kernel
theorem d_X11_onlyOne_9 : decode (yB m_X11_onlyOne) 9 = .ok (.ireturn, 1) := by decide +kernel
theorem d_X11_onlyOne_10 : decode (yB m_X11_onlyOne) 10 = .ok (.iload_n 0, 1) := by decide +kernel
theorem d_X11_onlyOne_11 : decode (yB m_X11_onlyOne) 11 = .ok (.invokestatic 411, 3) := by decide +kernel
theorem d_X11_onlyOne_14 : decode (yB m_X11_onlyOne) 14 = .ok (.ireturn, 1) := by decide +kernel
def fn_X11_onlyOne (v0 : Int32) : Option Int32 := (fn_JI_bitCount v0).bind fun x1 => (if x1 = (1 : Int32) then ((fn_X11_lowestOf v0).bind fun x3 => (some x3)) else ((some (-1 : Int32))))
theorem s_X11_onlyOne {X : zX} {Sh : zSh} {d : Nat} (hst : (zl X).stackTraces = false) (h0 : zSh0 Sh) (hd : 3 ≤ d) {v0 : Int32} {D : zD} : Sd X m_X11_onlyOne d [.int v0] (Sh, D) ((oP Sh D) (fn_X11_onlyOne v0)) := by
  obtain ⟨d, rfl⟩ : ∃ e, d = e + 1 := ⟨d - 1, by omega⟩
  replace hd : 2 ≤ d := by omega
  refine z_body ck_X11_onlyOne rfl (Nat.le_of_ble_eq_true rfl) rfl hst ?_
  rw [fn_X11_onlyOne]
  show Rn X m_X11_onlyOne (d + 1) 0 [(0, .int v0)] [] (Sh, D) _
  refine r_iload_n (pc := 0) 0 d_X11_onlyOne_0 rfl rfl ?_
  refine q_cP (f := (oP Sh D)) (av := [.int v0]) (st := []) (z_runS ck_JI_bitCount rfl ml_X11_295 cs_JI_bitCount rfl (Nat.le_of_ble_eq_true rfl) d_X11_onlyOne_1) (s_JI_bitCount hst h0 (by omega)) kp_P (fun x1 _ => ?_)
  refine r_iconst (pc := 4) (1 : Int32) d_X11_onlyOne_4 rfl ?_
  refine r_icmp_eq (f := (oP Sh D)) (pc := 5) 10 d_X11_onlyOne_5 (by decide) (fun c2 => ?_) (fun c2 => ?_)
  · refine r_iload_n (pc := 10) 0 d_X11_onlyOne_10 rfl rfl ?_
    refine q_cP (f := (oP Sh D)) (av := [.int v0]) (st := []) (z_runS ck_X11_lowestOf rfl ml_X11_411 cs_X11_lowestOf rfl (Nat.le_of_ble_eq_true rfl) d_X11_onlyOne_11) (s_X11_lowestOf hst h0 (by omega)) kp_P (fun x3 _ => ?_)
    exact r_iret (pc := 14) rfl d_X11_onlyOne_14
  · refine r_iconst (pc := 8) (-1 : Int32) d_X11_onlyOne_8 rfl ?_
    exact r_iret (pc := 9) rfl d_X11_onlyOne_9
/-! CoveredSigns.read -/
theorem d_X11_read_0 : decode (yB m_X11_read) 0 = .ok (.aload_n 0, 1) := by decide +kernel
theorem d_X11_read_1 : decode (yB m_X11_read) 1 = .ok (.iload_n 1, 1) := by decide +kernel
theorem d_X11_read_2 : decode (yB m_X11_read) 2 = .ok (.iload_n 2, 1) := by decide +kernel
theorem d_X11_read_3 : decode (yB m_X11_read) 3 = .ok (.invokevirtual 263, 3) := by decide +kernel
theorem d_X11_read_6 : decode (yB m_X11_read) 6 = .ok (.aload_n 0, 1) := by decide +kernel
theorem d_X11_read_7 : decode (yB m_X11_read) 7 = .ok (.getfield 25, 3) := by decide +kernel
theorem d_X11_read_10 : decode (yB m_X11_read) 10 = .ok (.aload_n 0, 1) := by decide +kernel
theorem d_X11_read_11 : decode (yB m_X11_read) 11 = .ok (.getfield 41, 3) := by decide +kernel
theorem d_X11_read_14 : decode (yB m_X11_read) 14 = .ok (.iload_n 1, 1) := by decide +kernel
theorem d_X11_read_15 : decode (yB m_X11_read) 15 = .ok (.invokevirtual 229, 3) := by decide +kernel
theorem d_X11_read_18 : decode (yB m_X11_read) 18 = .ok (.iload_n 2, 1) := by decide +kernel
theorem d_X11_read_19 : decode (yB m_X11_read) 19 = .ok (.aload_n 0, 1) := by decide +kernel
theorem d_X11_read_20 : decode (yB m_X11_read) 20 = .ok (.getfield 55, 3) := by decide +kernel
theorem d_X11_read_23 : decode (yB m_X11_read) 23 = .ok (.getfield 195, 3) := by decide +kernel
theorem d_X11_read_26 : decode (yB m_X11_read) 26 = .ok (.invokevirtual 266, 3) := by decide +kernel
theorem d_X11_read_29 : decode (yB m_X11_read) 29 = .ok (.invokestatic 270, 3) := by decide +kernel
theorem d_X11_read_32 : decode (yB m_X11_read) 32 = .ok (.ireturn, 1) := by decide +kernel
def fn_X11_read (v1 : Int32) (v2 : Int32) (D : zD) : Option (Nat ⊕ Int32) := (fn_X11_needPart v1 v2 D).bind fun e1 => if e1 = 0 then ((fn_X3_at 20 v1 D).bind fun x3 => (fn_X0_within 3 x3 v2 (gI D 57 0) D).bind fun x4 => (fn_X11_onlyOne x4).bind fun x5 => (some (.inr x5))) else some (.inl e1)
theorem s_X11_read {X : zX} {Sh : zSh} {d : Nat} (hst : (zl X).stackTraces = false) (h0 : zSh0 Sh) (hd : 10 ≤ d) {v1 : Int32} {v2 : Int32} {D : zD} : Sd X m_X11_read d [.ref 0, .int v1, .int v2] (Sh, D) ((oXP Sh D) (fn_X11_read v1 v2 D)) := by
  obtain ⟨d, rfl⟩ : ∃ e, d = e + 1 := ⟨d - 1, by omega⟩
  replace hd : 9 ≤ d := by omega
  refine z_body ck_X11_read rfl (Nat.le_of_ble_eq_true rfl) rfl hst ?_
  rw [fn_X11_read]
  show Rn X m_X11_read (d + 1) 0 [(0, .ref 0), (1, .int v1), (2, .int v2)] [] (Sh, D) _
  refine r_aload_n (pc := 0) 0 d_X11_read_0 rfl rfl ?_
  refine r_iload_n (pc := 1) 1 d_X11_read_1 rfl rfl ?_
  refine r_iload_n (pc := 2) 2 d_X11_read_2 rfl rfl ?_
  refine q_cN (f := (oXP Sh D)) (t := fun e1 => some (.inl e1)) (av := [.ref 0, .int v1, .int v2]) (st := []) (z_runV ck_X11_needPart rfl ml_X11_263 ci_X11_needPart cv_X11_needPart (K_0 h0) (ci := 11) rfl rfl (Nat.le_of_ble_eq_true rfl) d_X11_read_3) (s_X11_needPart hst h0 (by omega)) rfl kp_XP (fun _ _ => rfl) ?_
  refine r_aload_n (pc := 6) 0 d_X11_read_6 rfl rfl ?_
  refine r_getR (pc := 7) g_X11_25 (K_0 h0) rfl (R_0_2 h0) d_X11_read_7 ?_
  refine r_aload_n (pc := 10) 0 d_X11_read_10 rfl rfl ?_
  refine r_getR (pc := 11) g_X11_41 (K_0 h0) rfl (R_0_4 h0) d_X11_read_11 ?_
  refine r_iload_n (pc := 14) 1 d_X11_read_14 rfl rfl ?_
  refine q_cP (f := (oXP Sh D)) (av := [.ref 20, .int v1]) (st := [.ref 3]) (z_runV ck_X3_at rfl ml_X11_229 ci_X3_at cv_X3_at (K_20 h0) (ci := 3) rfl rfl (Nat.le_of_ble_eq_true rfl) d_X11_read_15) (s_X3_at hst h0 (by omega) (I_20)) kp_XP (fun x3 _ => ?_)
  refine r_iload_n (pc := 18) 2 d_X11_read_18 rfl rfl ?_
  refine r_aload_n (pc := 19) 0 d_X11_read_19 rfl rfl ?_
  refine r_getR (pc := 20) g_X11_55 (K_0 h0) rfl (R_0_6 h0) d_X11_read_20 ?_
  refine q_gIn (pc := 23) g_X11_195 (K_57 h0) rfl d_X11_read_23 ?_
  refine q_cP (f := (oXP Sh D)) (av := [.ref 3, .int x3, .int v2, .int (gI D 57 0)]) (st := []) (z_runV ck_X0_within rfl ml_X11_266 ci_X0_within cv_X0_within (K_3 h0) (ci := 0) rfl rfl (Nat.le_of_ble_eq_true rfl) d_X11_read_26) (s_X0_within hst h0 (by omega) (I_3)) kp_XP (fun x4 _ => ?_)
  refine q_cP (f := (oXP Sh D)) (av := [.int x4]) (st := []) (z_runS ck_X11_onlyOne rfl ml_X11_270 cs_X11_onlyOne rfl (Nat.le_of_ble_eq_true rfl) d_X11_read_29) (s_X11_onlyOne hst h0 (by omega)) kp_XP (fun x5 _ => ?_)
  exact r_iret (pc := 32) rfl d_X11_read_32
/-! CoveredSigns.nearest -/
theorem d_X11_nearest_0 : decode (yB m_X11_nearest) 0 = .ok (.aload_n 0, 1) := by decide +kernel
theorem d_X11_nearest_1 : decode (yB m_X11_nearest) 1 = .ok (.iload_n 1, 1) := by decide +kernel
theorem d_X11_nearest_2 : decode (yB m_X11_nearest) 2 = .ok (.iload_n 2, 1) := by decide +kernel
theorem d_X11_nearest_3 : decode (yB m_X11_nearest) 3 = .ok (.invokevirtual 263, 3) := by decide +kernel
theorem d_X11_nearest_6 : decode (yB m_X11_nearest) 6 = .ok (.aload_n 0, 1) := by decide +kernel
theorem d_X11_nearest_7 : decode (yB m_X11_nearest) 7 = .ok (.getfield 25, 3) := by decide +kernel
theorem d_X11_nearest_10 : decode (yB m_X11_nearest) 10 = .ok (.aload_n 0, 1) := by decide +kernel
theorem d_X11_nearest_11 : decode (yB m_X11_nearest) 11 = .ok (.getfield 41, 3) := by decide +kernel
theorem d_X11_nearest_14 : decode (yB m_X11_nearest) 14 = .ok (.iload_n 1, 1) := by decide +kernel
theorem d_X11_nearest_15 : decode (yB m_X11_nearest) 15 = .ok (.invokevirtual 229, 3) := by decide +kernel
theorem d_X11_nearest_18 : decode (yB m_X11_nearest) 18 = .ok (.iload_n 2, 1) := by decide +kernel
theorem d_X11_nearest_19 : decode (yB m_X11_nearest) 19 = .ok (.invokevirtual 273, 3) := by decide +kernel
theorem d_X11_nearest_22 : decode (yB m_X11_nearest) 22 = .ok (.ireturn, 1) := by decide +kernel
def fn_X11_nearest (v1 : Int32) (v2 : Int32) (D : zD) : Option (Nat ⊕ Int32) := (fn_X11_needPart v1 v2 D).bind fun e1 => if e1 = 0 then ((fn_X3_at 20 v1 D).bind fun x3 => (fn_X0_likest 3 x3 v2 D).bind fun x4 => (some (.inr x4))) else some (.inl e1)
theorem s_X11_nearest {X : zX} {Sh : zSh} {d : Nat} (hst : (zl X).stackTraces = false) (h0 : zSh0 Sh) (hd : 10 ≤ d) {v1 : Int32} {v2 : Int32} {D : zD} : Sd X m_X11_nearest d [.ref 0, .int v1, .int v2] (Sh, D) ((oXP Sh D) (fn_X11_nearest v1 v2 D)) := by
  obtain ⟨d, rfl⟩ : ∃ e, d = e + 1 := ⟨d - 1, by omega⟩
  replace hd : 9 ≤ d := by omega
  refine z_body ck_X11_nearest rfl (Nat.le_of_ble_eq_true rfl) rfl hst ?_
  rw [fn_X11_nearest]
  show Rn X m_X11_nearest (d + 1) 0 [(0, .ref 0), (1, .int v1), (2, .int v2)] [] (Sh, D) _
  refine r_aload_n (pc := 0) 0 d_X11_nearest_0 rfl rfl ?_
  refine r_iload_n (pc := 1) 1 d_X11_nearest_1 rfl rfl ?_
  refine r_iload_n (pc := 2) 2 d_X11_nearest_2 rfl rfl ?_
  refine q_cN (f := (oXP Sh D)) (t := fun e1 => some (.inl e1)) (av := [.ref 0, .int v1, .int v2]) (st := []) (z_runV ck_X11_needPart rfl ml_X11_263 ci_X11_needPart cv_X11_needPart (K_0 h0) (ci := 11) rfl rfl (Nat.le_of_ble_eq_true rfl) d_X11_nearest_3) (s_X11_needPart hst h0 (by omega)) rfl kp_XP (fun _ _ => rfl) ?_
  refine r_aload_n (pc := 6) 0 d_X11_nearest_6 rfl rfl ?_
  refine r_getR (pc := 7) g_X11_25 (K_0 h0) rfl (R_0_2 h0) d_X11_nearest_7 ?_
  refine r_aload_n (pc := 10) 0 d_X11_nearest_10 rfl rfl ?_
  refine r_getR (pc := 11) g_X11_41 (K_0 h0) rfl (R_0_4 h0) d_X11_nearest_11 ?_
  refine r_iload_n (pc := 14) 1 d_X11_nearest_14 rfl rfl ?_
  refine q_cP (f := (oXP Sh D)) (av := [.ref 20, .int v1]) (st := [.ref 3]) (z_runV ck_X3_at rfl ml_X11_229 ci_X3_at cv_X3_at (K_20 h0) (ci := 3) rfl rfl (Nat.le_of_ble_eq_true rfl) d_X11_nearest_15) (s_X3_at hst h0 (by omega) (I_20)) kp_XP (fun x3 _ => ?_)
  refine r_iload_n (pc := 18) 2 d_X11_nearest_18 rfl rfl ?_
  refine q_cP (f := (oXP Sh D)) (av := [.ref 3, .int x3, .int v2]) (st := []) (z_runV ck_X0_likest rfl ml_X11_273 ci_X0_likest cv_X0_likest (K_3 h0) (ci := 0) rfl rfl (Nat.le_of_ble_eq_true rfl) d_X11_nearest_19) (s_X0_likest hst h0 (by omega) (I_3)) kp_XP (fun x4 _ => ?_)
  exact r_iret (pc := 22) rfl d_X11_nearest_22
/-! CoveredSigns.part -/
theorem d_X11_part_0 : decode (yB m_X11_part) 0 = .ok (.aload_n 0, 1) := by decide +kernel
theorem d_X11_part_1 : decode (yB m_X11_part) 1 = .ok (.iload_n 1, 1) := by decide +kernel
theorem d_X11_part_2 : decode (yB m_X11_part) 2 = .ok (.iload_n 2, 1) := by decide +kernel
theorem d_X11_part_3 : decode (yB m_X11_part) 3 = .ok (.invokevirtual 263, 3) := by decide +kernel
theorem d_X11_part_6 : decode (yB m_X11_part) 6 = .ok (.aload_n 0, 1) := by decide +kernel
theorem d_X11_part_7 : decode (yB m_X11_part) 7 = .ok (.getfield 55, 3) := by decide +kernel
theorem d_X11_part_10 : decode (yB m_X11_part) 10 = .ok (.aload_n 0, 1) := by decide +kernel
theorem d_X11_part_11 : decode (yB m_X11_part) 11 = .ok (.getfield 41, 3) := by decide +kernel
theorem d_X11_part_14 : decode (yB m_X11_part) 14 = .ok (.iload_n 1, 1) := by decide +kernel
theorem d_X11_part_15 : decode (yB m_X11_part) 15 = .ok (.invokevirtual 229, 3) := by decide +kernel
theorem d_X11_part_18 : decode (yB m_X11_part) 18 = .ok (.iload_n 2, 1) := by decide +kernel
theorem d_X11_part_19 : decode (yB m_X11_part) 19 = .ok (.invokevirtual 276, 3) := by decide +kernel
theorem d_X11_part_22 : decode (yB m_X11_part) 22 = .ok (.ireturn, 1) := by decide +kernel
def fn_X11_part (v1 : Int32) (v2 : Int32) (D : zD) : Option ((Nat ⊕ Int32) × zD) := (fn_X11_needPart v1 v2 D).bind fun e1 => if e1 = 0 then ((fn_X3_at 20 v1 D).bind fun x3 => (fn_X9_addPart 57 x3 v2 D).bind fun q4 => (some (.inr q4.1, q4.2))) else some (.inl e1, D)
theorem s_X11_part {X : zX} {Sh : zSh} {d : Nat} (hst : (zl X).stackTraces = false) (h0 : zSh0 Sh) (hd : 10 ≤ d) {v1 : Int32} {v2 : Int32} {D : zD} : Sd X m_X11_part d [.ref 0, .int v1, .int v2] (Sh, D) ((oXI Sh) (fn_X11_part v1 v2 D)) := by
  obtain ⟨d, rfl⟩ : ∃ e, d = e + 1 := ⟨d - 1, by omega⟩
  replace hd : 9 ≤ d := by omega
  refine z_body ck_X11_part rfl (Nat.le_of_ble_eq_true rfl) rfl hst ?_
  rw [fn_X11_part]
  show Rn X m_X11_part (d + 1) 0 [(0, .ref 0), (1, .int v1), (2, .int v2)] [] (Sh, D) _
  refine r_aload_n (pc := 0) 0 d_X11_part_0 rfl rfl ?_
  refine r_iload_n (pc := 1) 1 d_X11_part_1 rfl rfl ?_
  refine r_iload_n (pc := 2) 2 d_X11_part_2 rfl rfl ?_
  refine q_cN (f := (oXI Sh)) (t := fun e1 => some (.inl e1, D)) (av := [.ref 0, .int v1, .int v2]) (st := []) (z_runV ck_X11_needPart rfl ml_X11_263 ci_X11_needPart cv_X11_needPart (K_0 h0) (ci := 11) rfl rfl (Nat.le_of_ble_eq_true rfl) d_X11_part_3) (s_X11_needPart hst h0 (by omega)) rfl kp_XI (fun _ _ => rfl) ?_
  refine r_aload_n (pc := 6) 0 d_X11_part_6 rfl rfl ?_
  refine r_getR (pc := 7) g_X11_55 (K_0 h0) rfl (R_0_6 h0) d_X11_part_7 ?_
  refine r_aload_n (pc := 10) 0 d_X11_part_10 rfl rfl ?_
  refine r_getR (pc := 11) g_X11_41 (K_0 h0) rfl (R_0_4 h0) d_X11_part_11 ?_
  refine r_iload_n (pc := 14) 1 d_X11_part_14 rfl rfl ?_
  refine q_cP (f := (oXI Sh)) (av := [.ref 20, .int v1]) (st := [.ref 57]) (z_runV ck_X3_at rfl ml_X11_229 ci_X3_at cv_X3_at (K_20 h0) (ci := 3) rfl rfl (Nat.le_of_ble_eq_true rfl) d_X11_part_15) (s_X3_at hst h0 (by omega) (I_20)) kp_XI (fun x3 _ => ?_)
  refine r_iload_n (pc := 18) 2 d_X11_part_18 rfl rfl ?_
  refine q_cI (f := (oXI Sh)) (av := [.ref 57, .int x3, .int v2]) (st := []) (z_runV ck_X9_addPart rfl ml_X11_276 ci_X9_addPart cv_X9_addPart (K_57 h0) (ci := 9) rfl rfl (Nat.le_of_ble_eq_true rfl) d_X11_part_19) (s_X9_addPart hst h0 (by omega) (I_57)) kp_XI (fun q4 _ => ?_)
  exact r_iret (pc := 22) rfl d_X11_part_22
/-! CoveredSigns.forget -/
theorem d_X11_forget_0 : decode (yB m_X11_forget) 0 = .ok (.aload_n 0, 1) := by decide +kernel
theorem d_X11_forget_1 : decode (yB m_X11_forget) 1 = .ok (.getfield 55, 3) := by decide +kernel
theorem d_X11_forget_4 : decode (yB m_X11_forget) 4 = .ok (.getfield 183, 3) := by decide +kernel
theorem d_X11_forget_7 : decode (yB m_X11_forget) 7 = .ok (.istore_n 1, 1) := by decide +kernel
theorem d_X11_forget_8 : decode (yB m_X11_forget) 8 = .ok (.aload_n 0, 1) := by decide +kernel
theorem d_X11_forget_9 : decode (yB m_X11_forget) 9 = .ok (.getfield 55, 3) := by decide +kernel
theorem d_X11_forget_12 : decode (yB m_X11_forget) 12 = .ok (.iconst 0, 1) := by decide +kernel
theorem d_X11_forget_13 : decode (yB m_X11_forget) 13 = .ok (.putfield 183, 3) := by decide +kernel
theorem d_X11_forget_16 : decode (yB m_X11_forget) 16 = .ok (.iload_n 1, 1) := by decide +kernel
theorem d_X11_forget_17 : decode (yB m_X11_forget) 17 = .ok (.ireturn, 1) := by decide +kernel
def fn_X11_forget (D : zD) : Option (Int32 × zD) := zlet (gI D 57 1) fun x1 => zlet (sI D 57 1 (0 : Int32)) fun D2 => (some (x1, D2))
theorem s_X11_forget {X : zX} {Sh : zSh} {d : Nat} (hst : (zl X).stackTraces = false) (h0 : zSh0 Sh) (hd : 1 ≤ d)  {D : zD} : Sd X m_X11_forget d [.ref 0] (Sh, D) ((oI Sh) (fn_X11_forget D)) := by
  obtain ⟨d, rfl⟩ : ∃ e, d = e + 1 := ⟨d - 1, by omega⟩
  replace hd : 0 ≤ d := by omega
  refine z_body ck_X11_forget rfl (Nat.le_of_ble_eq_true rfl) rfl hst ?_
  rw [fn_X11_forget]
  show Rn X m_X11_forget (d + 1) 0 [(0, .ref 0)] [] (Sh, D) _
  refine r_aload_n (pc := 0) 0 d_X11_forget_0 rfl rfl ?_
  refine r_getR (pc := 1) g_X11_55 (K_0 h0) rfl (R_0_6 h0) d_X11_forget_1 ?_
  refine q_gIn (pc := 4) g_X11_183 (K_57 h0) rfl d_X11_forget_4 ?_
  refine r_leti (f := (oI Sh)) (fun x1 => ?_)
  refine r_istore_n (pc := 7) (ls' := [(1, .int x1), (0, .ref 0)]) d_X11_forget_7 rfl (Nat.le_of_ble_eq_true rfl) rfl ?_
  refine r_aload_n (pc := 8) 1 d_X11_forget_8 rfl rfl ?_
  refine r_getR (pc := 9) g_X11_55 (K_0 h0) rfl (R_0_6 h0) d_X11_forget_9 ?_
  refine r_iconst (pc := 12) (0 : Int32) d_X11_forget_12 rfl ?_
  refine r_putIn (pc := 13) p_X11_183 (K_57 h0) rfl (Or.inl rfl) d_X11_forget_13 ?_
  refine r_letD (f := (oI Sh)) (fun D2 => ?_)
  refine r_iload_n (pc := 16) 0 d_X11_forget_16 rfl rfl ?_
  exact r_iret (pc := 17) rfl d_X11_forget_17
/-! CoveredSigns.rowMayBe -/
theorem d_X11_rowMayBe_0 : decode (yB m_X11_rowMayBe) 0 = .ok (.iconst 0, 1) := by decide +kernel
theorem d_X11_rowMayBe_1 : decode (yB m_X11_rowMayBe) 1 = .ok (.istore_n 2, 1) := by decide +kernel
theorem d_X11_rowMayBe_2 : decode (yB m_X11_rowMayBe) 2 = .ok (.iload_n 2, 1) := by decide +kernel
theorem d_X11_rowMayBe_3 : decode (yB m_X11_rowMayBe) 3 = .ok (.aload_n 0, 1) := by decide +kernel
theorem d_X11_rowMayBe_4 : decode (yB m_X11_rowMayBe) 4 = .ok (.getfield 55, 3) := by decide +kernel
theorem d_X11_rowMayBe_7 : decode (yB m_X11_rowMayBe) 7 = .ok (.getfield 183, 3) := by decide +kernel
theorem d_X11_rowMayBe_10 : decode (yB m_X11_rowMayBe) 10 = .ok (.if_icmp .ge 58, 3) := by decide +kernel
theorem d_X11_rowMayBe_13 : decode (yB m_X11_rowMayBe) 13 = .ok (.aload_n 0, 1) := by decide +kernel
theorem d_X11_rowMayBe_14 : decode (yB m_X11_rowMayBe) 14 = .ok (.getfield 25, 3) := by decide +kernel
theorem d_X11_rowMayBe_17 : decode (yB m_X11_rowMayBe) 17 = .ok (.aload_n 0, 1) := by decide +kernel
theorem d_X11_rowMayBe_18 : decode (yB m_X11_rowMayBe) 18 = .ok (.getfield 55, 3) := by decide +kernel
theorem d_X11_rowMayBe_21 : decode (yB m_X11_rowMayBe) 21 = .ok (.iload_n 2, 1) := by decide +kernel
theorem d_X11_rowMayBe_22 : decode (yB m_X11_rowMayBe) 22 = .ok (.invokevirtual 414, 3) := by decide +kernel
theorem d_X11_rowMayBe_25 : decode (yB m_X11_rowMayBe) 25 = .ok (.aload_n 0, 1) := by decide +kernel
theorem d_X11_rowMayBe_26 : decode (yB m_X11_rowMayBe) 26 = .ok (.getfield 55, 3) := by decide +kernel
theorem d_X11_rowMayBe_29 : decode (yB m_X11_rowMayBe) 29 = .ok (.iload_n 2, 1) := by decide +kernel
theorem d_X11_rowMayBe_30 : decode (yB m_X11_rowMayBe) 30 = .ok (.invokevirtual 417, 3) := by decide +kernel
theorem d_X11_rowMayBe_33 : decode (yB m_X11_rowMayBe) 33 = .ok (.aload_n 0, 1) := by decide +kernel
theorem d_X11_rowMayBe_34 : decode (yB m_X11_rowMayBe) 34 = .ok (.getfield 55, 3) := by decide +kernel
theorem d_X11_rowMayBe_37 : decode (yB m_X11_rowMayBe) 37 = .ok (.getfield 195, 3) := by decide +kernel
theorem d_X11_rowMayBe_40 : decode (yB m_X11_rowMayBe) 40 = .ok (.invokevirtual 266, 3) := by decide +kernel
theorem d_X11_rowMayBe_43 : decode (yB m_X11_rowMayBe) 43 = .ok (.istore_n 3, 1) := by decide +kernel
theorem d_X11_rowMayBe_44 : decode (yB m_X11_rowMayBe) 44 = .ok (.iload_n 3, 1) := by decide +kernel
theorem d_X11_rowMayBe_45 : decode (yB m_X11_rowMayBe) 45 = .ok (.aload_n 0, 1) := by decide +kernel
theorem d_X11_rowMayBe_46 : decode (yB m_X11_rowMayBe) 46 = .ok (.getfield 25, 3) := by decide +kernel
theorem d_X11_rowMayBe_49 : decode (yB m_X11_rowMayBe) 49 = .ok (.iload_n 1, 1) := by decide +kernel
theorem d_X11_rowMayBe_50 : decode (yB m_X11_rowMayBe) 50 = .ok (.iload_n 2, 1) := by decide +kernel
theorem d_X11_rowMayBe_51 : decode (yB m_X11_rowMayBe) 51 = .ok (.invokevirtual 222, 3) := by decide +kernel
theorem d_X11_rowMayBe_54 : decode (yB m_X11_rowMayBe) 54 = .ok (.ishr, 1) := by decide +kernel
theorem d_X11_rowMayBe_55 : decode (yB m_X11_rowMayBe) 55 = .ok (.iconst 1, 1) := by decide +kernel
theorem d_X11_rowMayBe_56 : decode (yB m_X11_rowMayBe) 56 = .ok (.iand, 1) := by decide +kernel
theorem d_X11_rowMayBe_57 : decode (yB m_X11_rowMayBe) 57 = .ok (.ifCond .ne 5, 3) := by decide +kernel
theorem d_X11_rowMayBe_60 : decode (yB m_X11_rowMayBe) 60 = .ok (.iconst 0, 1) := by decide +kernel
theorem d_X11_rowMayBe_61 : decode (yB m_X11_rowMayBe) 61 = .ok (.ireturn, 1) := by decide +kernel
theorem d_X11_rowMayBe_62 : decode (yB m_X11_rowMayBe) 62 = .ok (.iinc 2 1, 3) := by decide +kernel
theorem d_X11_rowMayBe_65 : decode (yB m_X11_rowMayBe) 65 = .ok (.goto (-63), 3) := by decide +kernel
theorem d_X11_rowMayBe_68 : decode (yB m_X11_rowMayBe) 68 = .ok (.iconst 1, 1) := by decide +kernel
theorem d_X11_rowMayBe_69 : decode (yB m_X11_rowMayBe) 69 = .ok (.ireturn, 1) := by decide +kernel
def fn_X11_rowMayBe_2 (v1 : Int32) (D : zD) : Nat → Int32 → Option Int32
  | 0, _ => none
  | n + 1, v2 => (if (gI D 57 1) ≤ v2 then ((some (1 : Int32))) else ((fn_X9_hiddenOf 57 v2 D).bind fun x2 => (fn_X9_paintOf 57 v2 D).bind fun x3 => (fn_X0_within 3 x2 x3 (gI D 57 0) D).bind fun x4 => (fn_X0_letterOf 3 v1 v2 D).bind fun x5 => (if ((x4 >>> (x5 &&& 31)) &&& (1 : Int32)) = 0 then ((some (0 : Int32))) else (((fn_X11_rowMayBe_2 v1 D n) (v2 + (1 : Int32)))))))
def fn_X11_rowMayBe (v1 : Int32) (D : zD) : Option Int32 := (fn_X11_rowMayBe_2 v1 D zFU (0 : Int32))
theorem s_X11_rowMayBe_2 {X : zX} {Sh : zSh} {d : Nat} (hst : (zl X).stackTraces = false) (h0 : zSh0 Sh) (hd : 3 ≤ d) {v1 : Int32} (D : zD) : ∀ (n : Nat) (v2 : Int32) , Rn X m_X11_rowMayBe (d + 1) 2 [(0, .ref 0), (1, .int v1), (2, .int v2)] [] (Sh, D) ((oP Sh D) (fn_X11_rowMayBe_2 v1 D n v2)) := by
  intro n
  induction n with
  | zero => intro v2; exact Rn_none rfl
  | succ n hk2 =>
    intro v2
    rw [fn_X11_rowMayBe_2]
    refine r_iload_n (pc := 2) 2 d_X11_rowMayBe_2 rfl rfl ?_
    refine r_aload_n (pc := 3) 0 d_X11_rowMayBe_3 rfl rfl ?_
    refine r_getR (pc := 4) g_X11_55 (K_0 h0) rfl (R_0_6 h0) d_X11_rowMayBe_4 ?_
    refine q_gIn (pc := 7) g_X11_183 (K_57 h0) rfl d_X11_rowMayBe_7 ?_
    refine r_icmp_ge (f := (oP Sh D)) (pc := 10) 68 d_X11_rowMayBe_10 (by decide) (fun c1 => ?_) (fun c1 => ?_)
    · refine r_iconst (pc := 68) (1 : Int32) d_X11_rowMayBe_68 rfl ?_
      exact r_zret (pc := 69) rfl (by decide) d_X11_rowMayBe_69
    · refine r_aload_n (pc := 13) 0 d_X11_rowMayBe_13 rfl rfl ?_
      refine r_getR (pc := 14) g_X11_25 (K_0 h0) rfl (R_0_2 h0) d_X11_rowMayBe_14 ?_
      refine r_aload_n (pc := 17) 0 d_X11_rowMayBe_17 rfl rfl ?_
      refine r_getR (pc := 18) g_X11_55 (K_0 h0) rfl (R_0_6 h0) d_X11_rowMayBe_18 ?_
      refine r_iload_n (pc := 21) 2 d_X11_rowMayBe_21 rfl rfl ?_
      refine q_cP (f := (oP Sh D)) (av := [.ref 57, .int v2]) (st := [.ref 3]) (z_runV ck_X9_hiddenOf rfl ml_X11_414 ci_X9_hiddenOf cv_X9_hiddenOf (K_57 h0) (ci := 9) rfl rfl (Nat.le_of_ble_eq_true rfl) d_X11_rowMayBe_22) (s_X9_hiddenOf hst h0 (by omega) (I_57)) kp_P (fun x2 _ => ?_)
      refine r_aload_n (pc := 25) 0 d_X11_rowMayBe_25 rfl rfl ?_
      refine r_getR (pc := 26) g_X11_55 (K_0 h0) rfl (R_0_6 h0) d_X11_rowMayBe_26 ?_
      refine r_iload_n (pc := 29) 2 d_X11_rowMayBe_29 rfl rfl ?_
      refine q_cP (f := (oP Sh D)) (av := [.ref 57, .int v2]) (st := [.int x2, .ref 3]) (z_runV ck_X9_paintOf rfl ml_X11_417 ci_X9_paintOf cv_X9_paintOf (K_57 h0) (ci := 9) rfl rfl (Nat.le_of_ble_eq_true rfl) d_X11_rowMayBe_30) (s_X9_paintOf hst h0 (by omega) (I_57)) kp_P (fun x3 _ => ?_)
      refine r_aload_n (pc := 33) 0 d_X11_rowMayBe_33 rfl rfl ?_
      refine r_getR (pc := 34) g_X11_55 (K_0 h0) rfl (R_0_6 h0) d_X11_rowMayBe_34 ?_
      refine q_gIn (pc := 37) g_X11_195 (K_57 h0) rfl d_X11_rowMayBe_37 ?_
      refine q_cP (f := (oP Sh D)) (av := [.ref 3, .int x2, .int x3, .int (gI D 57 0)]) (st := []) (z_runV ck_X0_within rfl ml_X11_266 ci_X0_within cv_X0_within (K_3 h0) (ci := 0) rfl rfl (Nat.le_of_ble_eq_true rfl) d_X11_rowMayBe_40) (s_X0_within hst h0 (by omega) (I_3)) kp_P (fun x4 _ => ?_)
      refine r_istore_n (pc := 43) (ls' := [(3, .int x4), (0, .ref 0), (1, .int v1), (2, .int v2)]) d_X11_rowMayBe_43 rfl (Nat.le_of_ble_eq_true rfl) rfl ?_
      refine r_iload_n (pc := 44) 0 d_X11_rowMayBe_44 rfl rfl ?_
      refine r_aload_n (pc := 45) 1 d_X11_rowMayBe_45 rfl rfl ?_
      refine r_getR (pc := 46) g_X11_25 (K_0 h0) rfl (R_0_2 h0) d_X11_rowMayBe_46 ?_
      refine r_iload_n (pc := 49) 2 d_X11_rowMayBe_49 rfl rfl ?_
      refine r_iload_n (pc := 50) 3 d_X11_rowMayBe_50 rfl rfl ?_
      refine q_cP (f := (oP Sh D)) (av := [.ref 3, .int v1, .int v2]) (st := [.int x4]) (z_runV ck_X0_letterOf rfl ml_X11_222 ci_X0_letterOf cv_X0_letterOf (K_3 h0) (ci := 0) rfl rfl (Nat.le_of_ble_eq_true rfl) d_X11_rowMayBe_51) (s_X0_letterOf hst h0 (by omega) (I_3)) kp_P (fun x5 _ => ?_)
      refine r_ishr (pc := 54) d_X11_rowMayBe_54 ?_
      refine r_iconst (pc := 55) (1 : Int32) d_X11_rowMayBe_55 rfl ?_
      refine r_iand (pc := 56) d_X11_rowMayBe_56 ?_
      refine r_if_ne (f := (oP Sh D)) (pc := 57) 62 d_X11_rowMayBe_57 (by decide) (fun c6 => ?_) (fun c6 => ?_)
      · refine r_iinc (pc := 62) ((v2 + (1 : Int32))) 3 (ls' := [(2, .int (v2 + (1 : Int32))), (3, .int x4), (0, .ref 0), (1, .int v1)]) d_X11_rowMayBe_62 rfl rfl (Nat.le_of_ble_eq_true rfl) rfl ?_
        refine r_goto (pc := 65) 2 d_X11_rowMayBe_65 (by decide) ?_
        refine r_pick [2, 3, 0] (ls' := [(0, .ref 0), (1, .int v1), (2, .int (v2 + (1 : Int32)))]) rfl ?_
        exact hk2 (v2 + (1 : Int32)) 
      · refine r_iconst (pc := 60) (0 : Int32) d_X11_rowMayBe_60 rfl ?_
        exact r_zret (pc := 61) rfl (by decide) d_X11_rowMayBe_61
theorem s_X11_rowMayBe {X : zX} {Sh : zSh} {d : Nat} (hst : (zl X).stackTraces = false) (h0 : zSh0 Sh) (hd : 4 ≤ d) {v1 : Int32} {D : zD} : Sd X m_X11_rowMayBe d [.ref 0, .int v1] (Sh, D) ((oP Sh D) (fn_X11_rowMayBe v1 D)) := by
  obtain ⟨d, rfl⟩ : ∃ e, d = e + 1 := ⟨d - 1, by omega⟩
  replace hd : 3 ≤ d := by omega
  refine z_body ck_X11_rowMayBe rfl (Nat.le_of_ble_eq_true rfl) rfl hst ?_
  rw [fn_X11_rowMayBe]
  show Rn X m_X11_rowMayBe (d + 1) 0 [(0, .ref 0), (1, .int v1)] [] (Sh, D) _
  refine r_iconst (pc := 0) (0 : Int32) d_X11_rowMayBe_0 rfl ?_
  refine r_istore_n (pc := 1) (ls' := [(2, .int (0 : Int32)), (0, .ref 0), (1, .int v1)]) d_X11_rowMayBe_1 rfl (Nat.le_of_ble_eq_true rfl) rfl ?_
  refine r_pick [1, 2, 0] (ls' := [(0, .ref 0), (1, .int v1), (2, .int (0 : Int32))]) rfl ?_
  exact s_X11_rowMayBe_2 hst h0 hd D zFU  (0 : Int32)
/-! CoveredSigns.words -/
theorem d_X11_words_0 : decode (yB m_X11_words) 0 = .ok (.iconst 0, 1) := by decide +kernel
theorem d_X11_words_1 : decode (yB m_X11_words) 1 = .ok (.istore_n 1, 1) := by decide +kernel
theorem d_X11_words_2 : decode (yB m_X11_words) 2 = .ok (.iconst 0, 1) := by decide +kernel
theorem d_X11_words_3 : decode (yB m_X11_words) 3 = .ok (.istore_n 2, 1) := by decide +kernel
theorem d_X11_words_4 : decode (yB m_X11_words) 4 = .ok (.iload_n 2, 1) := by decide +kernel
theorem d_X11_words_5 : decode (yB m_X11_words) 5 = .ok (.aload_n 0, 1) := by decide +kernel
theorem d_X11_words_6 : decode (yB m_X11_words) 6 = .ok (.getfield 25, 3) := by decide +kernel
theorem d_X11_words_9 : decode (yB m_X11_words) 9 = .ok (.getfield 192, 3) := by decide +kernel
theorem d_X11_words_12 : decode (yB m_X11_words) 12 = .ok (.if_icmp .ge 41, 3) := by decide +kernel
theorem d_X11_words_15 : decode (yB m_X11_words) 15 = .ok (.aload_n 0, 1) := by decide +kernel
theorem d_X11_words_16 : decode (yB m_X11_words) 16 = .ok (.getfield 25, 3) := by decide +kernel
theorem d_X11_words_19 : decode (yB m_X11_words) 19 = .ok (.iload_n 2, 1) := by decide +kernel
theorem d_X11_words_20 : decode (yB m_X11_words) 20 = .ok (.invokevirtual 279, 3) := by decide +kernel
theorem d_X11_words_23 : decode (yB m_X11_words) 23 = .ok (.aload_n 0, 1) := by decide +kernel
theorem d_X11_words_24 : decode (yB m_X11_words) 24 = .ok (.getfield 55, 3) := by decide +kernel
theorem d_X11_words_27 : decode (yB m_X11_words) 27 = .ok (.getfield 183, 3) := by decide +kernel
theorem d_X11_words_30 : decode (yB m_X11_words) 30 = .ok (.if_icmp .ne 17, 3) := by decide +kernel
theorem d_X11_words_33 : decode (yB m_X11_words) 33 = .ok (.aload_n 0, 1) := by decide +kernel
theorem d_X11_words_34 : decode (yB m_X11_words) 34 = .ok (.iload_n 2, 1) := by decide +kernel
theorem d_X11_words_35 : decode (yB m_X11_words) 35 = .ok (.invokevirtual 282, 3) := by decide +kernel
theorem d_X11_words_38 : decode (yB m_X11_words) 38 = .ok (.ifCond .eq 9, 3) := by decide +kernel
theorem d_X11_words_41 : decode (yB m_X11_words) 41 = .ok (.iload_n 1, 1) := by decide +kernel
theorem d_X11_words_42 : decode (yB m_X11_words) 42 = .ok (.iconst 1, 1) := by decide +kernel
theorem d_X11_words_43 : decode (yB m_X11_words) 43 = .ok (.iload_n 2, 1) := by decide +kernel
theorem d_X11_words_44 : decode (yB m_X11_words) 44 = .ok (.ishl, 1) := by decide +kernel
theorem d_X11_words_45 : decode (yB m_X11_words) 45 = .ok (.ior, 1) := by decide +kernel
theorem d_X11_words_46 : decode (yB m_X11_words) 46 = .ok (.istore_n 1, 1) := by decide +kernel
theorem d_X11_words_47 : decode (yB m_X11_words) 47 = .ok (.iinc 2 1, 3) := by decide +kernel
theorem d_X11_words_50 : decode (yB m_X11_words) 50 = .ok (.goto (-46), 3) := by decide +kernel
theorem d_X11_words_53 : decode (yB m_X11_words) 53 = .ok (.iload_n 1, 1) := by decide +kernel
theorem d_X11_words_54 : decode (yB m_X11_words) 54 = .ok (.ireturn, 1) := by decide +kernel
def fn_X11_words_4 (D : zD) : Nat → Int32 → Int32 → Option Int32
  | 0, _, _ => none
  | n + 1, v1, v2 => (if (gI D 3 3) ≤ v2 then ((some v1)) else ((fn_X0_lengthOf 3 v2 D).bind fun x2 => (if x2 = (gI D 57 1) then ((fn_X11_rowMayBe v2 D).bind fun x4 => (if x4 = 0 then (((fn_X11_words_4 D n) v1 (v2 + (1 : Int32)))) else (zlet (v1 ||| ((1 : Int32) <<< (v2 &&& 31))) fun x6 => ((fn_X11_words_4 D n) x6 (v2 + (1 : Int32)))))) else (((fn_X11_words_4 D n) v1 (v2 + (1 : Int32)))))))
def fn_X11_words (D : zD) : Option Int32 := (fn_X11_words_4 D zFU (0 : Int32) (0 : Int32))
theorem s_X11_words_4 {X : zX} {Sh : zSh} {d : Nat} (hst : (zl X).stackTraces = false) (h0 : zSh0 Sh) (hd : 4 ≤ d) (D : zD) : ∀ (n : Nat) (v1 : Int32) (v2 : Int32) , Rn X m_X11_words (d + 1) 4 [(0, .ref 0), (1, .int v1), (2, .int v2)] [] (Sh, D) ((oP Sh D) (fn_X11_words_4 D n v1 v2)) := by
  intro n
  induction n with
  | zero => intro v1 v2; exact Rn_none rfl
  | succ n hk4 =>
    intro v1 v2
    rw [fn_X11_words_4]
    refine r_iload_n (pc := 4) 2 d_X11_words_4 rfl rfl ?_
    refine r_aload_n (pc := 5) 0 d_X11_words_5 rfl rfl ?_
    refine r_getR (pc := 6) g_X11_25 (K_0 h0) rfl (R_0_2 h0) d_X11_words_6 ?_
    refine q_gIn (pc := 9) g_X11_192 (K_3 h0) rfl d_X11_words_9 ?_
    refine r_icmp_ge (f := (oP Sh D)) (pc := 12) 53 d_X11_words_12 (by decide) (fun c1 => ?_) (fun c1 => ?_)
    · refine r_iload_n (pc := 53) 1 d_X11_words_53 rfl rfl ?_
      exact r_iret (pc := 54) rfl d_X11_words_54
    · refine r_aload_n (pc := 15) 0 d_X11_words_15 rfl rfl ?_
      refine r_getR (pc := 16) g_X11_25 (K_0 h0) rfl (R_0_2 h0) d_X11_words_16 ?_
      refine r_iload_n (pc := 19) 2 d_X11_words_19 rfl rfl ?_
      refine q_cP (f := (oP Sh D)) (av := [.ref 3, .int v2]) (st := []) (z_runV ck_X0_lengthOf rfl ml_X11_279 ci_X0_lengthOf cv_X0_lengthOf (K_3 h0) (ci := 0) rfl rfl (Nat.le_of_ble_eq_true rfl) d_X11_words_20) (s_X0_lengthOf hst h0 (by omega) (I_3)) kp_P (fun x2 _ => ?_)
      refine r_aload_n (pc := 23) 0 d_X11_words_23 rfl rfl ?_
      refine r_getR (pc := 24) g_X11_55 (K_0 h0) rfl (R_0_6 h0) d_X11_words_24 ?_
      refine q_gIn (pc := 27) g_X11_183 (K_57 h0) rfl d_X11_words_27 ?_
      refine r_icmp_ne (f := (oP Sh D)) (pc := 30) 47 d_X11_words_30 (by decide) (fun c3 => ?_) (fun c3 => ?_)
      · refine r_iinc (pc := 47) ((v2 + (1 : Int32))) 2 (ls' := [(2, .int (v2 + (1 : Int32))), (0, .ref 0), (1, .int v1)]) d_X11_words_47 rfl rfl (Nat.le_of_ble_eq_true rfl) rfl ?_
        refine r_goto (pc := 50) 4 d_X11_words_50 (by decide) ?_
        refine r_pick [1, 2, 0] (ls' := [(0, .ref 0), (1, .int v1), (2, .int (v2 + (1 : Int32)))]) rfl ?_
        exact hk4 v1 (v2 + (1 : Int32)) 
      · refine r_aload_n (pc := 33) 0 d_X11_words_33 rfl rfl ?_
        refine r_iload_n (pc := 34) 2 d_X11_words_34 rfl rfl ?_
        refine q_cP (f := (oP Sh D)) (av := [.ref 0, .int v2]) (st := []) (z_runV ck_X11_rowMayBe rfl ml_X11_282 ci_X11_rowMayBe cv_X11_rowMayBe (K_0 h0) (ci := 11) rfl rfl (Nat.le_of_ble_eq_true rfl) d_X11_words_35) (s_X11_rowMayBe hst h0 (by omega)) kp_P (fun x4 _ => ?_)
        refine r_if_eq (f := (oP Sh D)) (pc := 38) 47 d_X11_words_38 (by decide) (fun c5 => ?_) (fun c5 => ?_)
        · refine r_iinc (pc := 47) ((v2 + (1 : Int32))) 2 (ls' := [(2, .int (v2 + (1 : Int32))), (0, .ref 0), (1, .int v1)]) d_X11_words_47 rfl rfl (Nat.le_of_ble_eq_true rfl) rfl ?_
          refine r_goto (pc := 50) 4 d_X11_words_50 (by decide) ?_
          refine r_pick [1, 2, 0] (ls' := [(0, .ref 0), (1, .int v1), (2, .int (v2 + (1 : Int32)))]) rfl ?_
          exact hk4 v1 (v2 + (1 : Int32)) 
        · refine r_iload_n (pc := 41) 1 d_X11_words_41 rfl rfl ?_
          refine r_iconst (pc := 42) (1 : Int32) d_X11_words_42 rfl ?_
          refine r_iload_n (pc := 43) 2 d_X11_words_43 rfl rfl ?_
          refine r_ishl (pc := 44) d_X11_words_44 ?_
          refine r_ior (pc := 45) d_X11_words_45 ?_
          refine r_leti (f := (oP Sh D)) (fun x6 => ?_)
          refine r_istore_n (pc := 46) (ls' := [(1, .int x6), (0, .ref 0), (2, .int v2)]) d_X11_words_46 rfl (Nat.le_of_ble_eq_true rfl) rfl ?_
          refine r_iinc (pc := 47) ((v2 + (1 : Int32))) 2 (ls' := [(2, .int (v2 + (1 : Int32))), (1, .int x6), (0, .ref 0)]) d_X11_words_47 rfl rfl (Nat.le_of_ble_eq_true rfl) rfl ?_
          refine r_goto (pc := 50) 4 d_X11_words_50 (by decide) ?_
          refine r_pick [2, 1, 0] (ls' := [(0, .ref 0), (1, .int x6), (2, .int (v2 + (1 : Int32)))]) rfl ?_
          exact hk4 x6 (v2 + (1 : Int32)) 
theorem s_X11_words {X : zX} {Sh : zSh} {d : Nat} (hst : (zl X).stackTraces = false) (h0 : zSh0 Sh) (hd : 5 ≤ d)  {D : zD} : Sd X m_X11_words d [.ref 0] (Sh, D) ((oP Sh D) (fn_X11_words D)) := by
  obtain ⟨d, rfl⟩ : ∃ e, d = e + 1 := ⟨d - 1, by omega⟩
  replace hd : 4 ≤ d := by omega
  refine z_body ck_X11_words rfl (Nat.le_of_ble_eq_true rfl) rfl hst ?_
  rw [fn_X11_words]
  show Rn X m_X11_words (d + 1) 0 [(0, .ref 0)] [] (Sh, D) _
  refine r_iconst (pc := 0) (0 : Int32) d_X11_words_0 rfl ?_
  refine r_istore_n (pc := 1) (ls' := [(1, .int (0 : Int32)), (0, .ref 0)]) d_X11_words_1 rfl (Nat.le_of_ble_eq_true rfl) rfl ?_
  refine r_iconst (pc := 2) (0 : Int32) d_X11_words_2 rfl ?_
  refine r_istore_n (pc := 3) (ls' := [(2, .int (0 : Int32)), (1, .int (0 : Int32)), (0, .ref 0)]) d_X11_words_3 rfl (Nat.le_of_ble_eq_true rfl) rfl ?_
  refine r_pick [2, 1, 0] (ls' := [(0, .ref 0), (1, .int (0 : Int32)), (2, .int (0 : Int32))]) rfl ?_
  exact s_X11_words_4 hst h0 hd D zFU  (0 : Int32) (0 : Int32)
/-! CoveredSigns.sure -/
theorem d_X11_sure_0 : decode (yB m_X11_sure) 0 = .ok (.aload_n 0, 1) := by decide +kernel
theorem d_X11_sure_1 : decode (yB m_X11_sure) 1 = .ok (.invokevirtual 286, 3) := by decide +kernel
theorem d_X11_sure_4 : decode (yB m_X11_sure) 4 = .ok (.istore_n 2, 1) := by decide +kernel
theorem d_X11_sure_5 : decode (yB m_X11_sure) 5 = .ok (.iload_n 1, 1) := by decide +kernel
theorem d_X11_sure_6 : decode (yB m_X11_sure) 6 = .ok (.ifCond .lt 18, 3) := by decide +kernel
theorem d_X11_sure_9 : decode (yB m_X11_sure) 9 = .ok (.iload_n 1, 1) := by decide +kernel
theorem d_X11_sure_10 : decode (yB m_X11_sure) 10 = .ok (.aload_n 0, 1) := by decide +kernel
theorem d_X11_sure_11 : decode (yB m_X11_sure) 11 = .ok (.getfield 55, 3) := by decide +kernel
theorem d_X11_sure_14 : decode (yB m_X11_sure) 14 = .ok (.getfield 183, 3) := by decide +kernel
theorem d_X11_sure_17 : decode (yB m_X11_sure) 17 = .ok (.if_icmp .ge 7, 3) := by decide +kernel
theorem d_X11_sure_20 : decode (yB m_X11_sure) 20 = .ok (.iload_n 2, 1) := by decide +kernel
theorem d_X11_sure_21 : decode (yB m_X11_sure) 21 = .ok (.ifCond .ne 5, 3) := by decide +kernel
theorem d_X11_sure_24 : decode (yB m_X11_sure) 24 = .ok (.iconst (-1), 1) := by decide +kernel
theorem d_X11_sure_25 : decode (yB m_X11_sure) 25 = .ok (.ireturn, 1) := by decide +kernel
theorem d_X11_sure_26 : decode (yB m_X11_sure) 26 = .ok (.iconst (-1), 1) := by decide +kernel
theorem d_X11_sure_27 : decode (yB m_X11_sure) 27 = .ok (.istore_n 3, 1) := by decide +kernel
theorem d_X11_sure_28 : decode (yB m_X11_sure) 28 = .ok (.iconst 0, 1) := by decide +kernel
theorem d_X11_sure_29 : decode (yB m_X11_sure) 29 = .ok (.istore 4, 2) := by decide +kernel
theorem d_X11_sure_31 : decode (yB m_X11_sure) 31 = .ok (.iload 4, 2) := by decide +kernel
theorem d_X11_sure_33 : decode (yB m_X11_sure) 33 = .ok (.aload_n 0, 1) := by decide +kernel
theorem d_X11_sure_34 : decode (yB m_X11_sure) 34 = .ok (.getfield 25, 3) := by decide +kernel
theorem d_X11_sure_37 : decode (yB m_X11_sure) 37 = .ok (.getfield 192, 3) := by decide +kernel
theorem d_X11_sure_40 : decode (yB m_X11_sure) 40 = .ok (.if_icmp .ge 46, 3) := by decide +kernel
theorem d_X11_sure_43 : decode (yB m_X11_sure) 43 = .ok (.iload_n 2, 1) := by decide +kernel
theorem d_X11_sure_44 : decode (yB m_X11_sure) 44 = .ok (.iload 4, 2) := by decide +kernel
theorem d_X11_sure_46 : decode (yB m_X11_sure) 46 = .ok (.ishr, 1) := by decide +kernel
theorem d_X11_sure_47 : decode (yB m_X11_sure) 47 = .ok (.iconst 1, 1) := by decide +kernel
theorem d_X11_sure_48 : decode (yB m_X11_sure) 48 = .ok (.iand, 1) := by decide +kernel
theorem d_X11_sure_49 : decode (yB m_X11_sure) 49 = .ok (.ifCond .eq 31, 3) := by decide +kernel
theorem d_X11_sure_52 : decode (yB m_X11_sure) 52 = .ok (.aload_n 0, 1) := by decide +kernel
theorem d_X11_sure_53 : decode (yB m_X11_sure) 53 = .ok (.getfield 25, 3) := by decide +kernel
theorem d_X11_sure_56 : decode (yB m_X11_sure) 56 = .ok (.iload 4, 2) := by decide +kernel
theorem d_X11_sure_58 : decode (yB m_X11_sure) 58 = .ok (.iload_n 1, 1) := by decide +kernel
theorem d_X11_sure_59 : decode (yB m_X11_sure) 59 = .ok (.invokevirtual 222, 3) := by decide +kernel
theorem d_X11_sure_62 : decode (yB m_X11_sure) 62 = .ok (.istore 5, 2) := by decide +kernel
theorem d_X11_sure_64 : decode (yB m_X11_sure) 64 = .ok (.iload_n 3, 1) := by decide +kernel
theorem d_X11_sure_65 : decode (yB m_X11_sure) 65 = .ok (.iconst (-1), 1) := by decide +kernel
theorem d_X11_sure_66 : decode (yB m_X11_sure) 66 = .ok (.if_icmp .eq 11, 3) := by decide +kernel
theorem d_X11_sure_69 : decode (yB m_X11_sure) 69 = .ok (.iload 5, 2) := by decide +kernel
theorem d_X11_sure_71 : decode (yB m_X11_sure) 71 = .ok (.iload_n 3, 1) := by decide +kernel
theorem d_X11_sure_72 : decode (yB m_X11_sure) 72 = .ok (.if_icmp .eq 5, 3) := by decide +kernel
theorem d_X11_sure_75 : decode (yB m_X11_sure) 75 = .ok (.iconst (-1), 1) := by decide +kernel
theorem d_X11_sure_76 : decode (yB m_X11_sure) 76 = .ok (.ireturn, 1) := by decide +kernel
theorem d_X11_sure_77 : decode (yB m_X11_sure) 77 = .ok (.iload 5, 2) := by decide +kernel
theorem d_X11_sure_79 : decode (yB m_X11_sure) 79 = .ok (.istore_n 3, 1) := by decide +kernel
theorem d_X11_sure_80 : decode (yB m_X11_sure) 80 = .ok (.iinc 4 1, 3) := by decide +kernel
theorem d_X11_sure_83 : decode (yB m_X11_sure) 83 = .ok (.goto (-52), 3) := by decide +kernel
theorem d_X11_sure_86 : decode (yB m_X11_sure) 86 = .ok (.iload_n 3, 1) := by decide +kernel
theorem d_X11_sure_87 : decode (yB m_X11_sure) 87 = .ok (.ireturn, 1) := by decide +kernel
def fn_X11_sure_31 (v1 : Int32) (D : zD) : Nat → Int32 → Int32 → Int32 → Option Int32
  | 0, _, _, _ => none
  | n + 1, v2, v3, v4 => (if (gI D 3 3) ≤ v4 then ((some v3)) else ((if ((v2 >>> (v4 &&& 31)) &&& (1 : Int32)) = 0 then (((fn_X11_sure_31 v1 D n) v2 v3 (v4 + (1 : Int32)))) else ((fn_X0_letterOf 3 v4 v1 D).bind fun x7 => (if v3 = (-1 : Int32) then (((fn_X11_sure_31 v1 D n) v2 x7 (v4 + (1 : Int32)))) else ((if x7 = v3 then (((fn_X11_sure_31 v1 D n) v2 x7 (v4 + (1 : Int32)))) else ((some (-1 : Int32))))))))))
def fn_X11_sure (v1 : Int32) (D : zD) : Option Int32 := (fn_X11_words D).bind fun x1 => (if v1 < 0 then ((some (-1 : Int32))) else ((if (gI D 57 1) ≤ v1 then ((some (-1 : Int32))) else ((if x1 = 0 then ((some (-1 : Int32))) else ((fn_X11_sure_31 v1 D zFU x1 (-1 : Int32) (0 : Int32))))))))
theorem s_X11_sure_31 {X : zX} {Sh : zSh} {d : Nat} (hst : (zl X).stackTraces = false) (h0 : zSh0 Sh) (hd : 5 ≤ d) {v1 : Int32} (D : zD) : ∀ (n : Nat) (v2 : Int32) (v3 : Int32) (v4 : Int32) , Rn X m_X11_sure (d + 1) 31 [(0, .ref 0), (1, .int v1), (2, .int v2), (3, .int v3), (4, .int v4)] [] (Sh, D) ((oP Sh D) (fn_X11_sure_31 v1 D n v2 v3 v4)) := by
  intro n
  induction n with
  | zero => intro v2 v3 v4; exact Rn_none rfl
  | succ n hk31 =>
    intro v2 v3 v4
    rw [fn_X11_sure_31]
    refine r_iload (pc := 31) 4 d_X11_sure_31 rfl ?_
    refine r_aload_n (pc := 33) 0 d_X11_sure_33 rfl rfl ?_
    refine r_getR (pc := 34) g_X11_25 (K_0 h0) rfl (R_0_2 h0) d_X11_sure_34 ?_
    refine q_gIn (pc := 37) g_X11_192 (K_3 h0) rfl d_X11_sure_37 ?_
    refine r_icmp_ge (f := (oP Sh D)) (pc := 40) 86 d_X11_sure_40 (by decide) (fun c5 => ?_) (fun c5 => ?_)
    · refine r_iload_n (pc := 86) 3 d_X11_sure_86 rfl rfl ?_
      exact r_iret (pc := 87) rfl d_X11_sure_87
    · refine r_iload_n (pc := 43) 2 d_X11_sure_43 rfl rfl ?_
      refine r_iload (pc := 44) 4 d_X11_sure_44 rfl ?_
      refine r_ishr (pc := 46) d_X11_sure_46 ?_
      refine r_iconst (pc := 47) (1 : Int32) d_X11_sure_47 rfl ?_
      refine r_iand (pc := 48) d_X11_sure_48 ?_
      refine r_if_eq (f := (oP Sh D)) (pc := 49) 80 d_X11_sure_49 (by decide) (fun c6 => ?_) (fun c6 => ?_)
      · refine r_iinc (pc := 80) ((v4 + (1 : Int32))) 4 (ls' := [(4, .int (v4 + (1 : Int32))), (0, .ref 0), (1, .int v1), (2, .int v2), (3, .int v3)]) d_X11_sure_80 rfl rfl (Nat.le_of_ble_eq_true rfl) rfl ?_
        refine r_goto (pc := 83) 31 d_X11_sure_83 (by decide) ?_
        refine r_pick [1, 2, 3, 4, 0] (ls' := [(0, .ref 0), (1, .int v1), (2, .int v2), (3, .int v3), (4, .int (v4 + (1 : Int32)))]) rfl ?_
        exact hk31 v2 v3 (v4 + (1 : Int32)) 
      · refine r_aload_n (pc := 52) 0 d_X11_sure_52 rfl rfl ?_
        refine r_getR (pc := 53) g_X11_25 (K_0 h0) rfl (R_0_2 h0) d_X11_sure_53 ?_
        refine r_iload (pc := 56) 4 d_X11_sure_56 rfl ?_
        refine r_iload_n (pc := 58) 1 d_X11_sure_58 rfl rfl ?_
        refine q_cP (f := (oP Sh D)) (av := [.ref 3, .int v4, .int v1]) (st := []) (z_runV ck_X0_letterOf rfl ml_X11_222 ci_X0_letterOf cv_X0_letterOf (K_3 h0) (ci := 0) rfl rfl (Nat.le_of_ble_eq_true rfl) d_X11_sure_59) (s_X0_letterOf hst h0 (by omega) (I_3)) kp_P (fun x7 _ => ?_)
        refine r_istore (pc := 62) (ls' := [(5, .int x7), (0, .ref 0), (1, .int v1), (2, .int v2), (3, .int v3), (4, .int v4)]) d_X11_sure_62 (Nat.le_of_ble_eq_true rfl) rfl ?_
        refine r_iload_n (pc := 64) 4 d_X11_sure_64 rfl rfl ?_
        refine r_iconst (pc := 65) (-1 : Int32) d_X11_sure_65 rfl ?_
        refine r_icmp_eq (f := (oP Sh D)) (pc := 66) 77 d_X11_sure_66 (by decide) (fun c8 => ?_) (fun c8 => ?_)
        · refine r_iload (pc := 77) 0 d_X11_sure_77 rfl ?_
          refine r_istore_n (pc := 79) (ls' := [(3, .int x7), (5, .int x7), (0, .ref 0), (1, .int v1), (2, .int v2), (4, .int v4)]) d_X11_sure_79 rfl (Nat.le_of_ble_eq_true rfl) rfl ?_
          refine r_iinc (pc := 80) ((v4 + (1 : Int32))) 5 (ls' := [(4, .int (v4 + (1 : Int32))), (3, .int x7), (5, .int x7), (0, .ref 0), (1, .int v1), (2, .int v2)]) d_X11_sure_80 rfl rfl (Nat.le_of_ble_eq_true rfl) rfl ?_
          refine r_goto (pc := 83) 31 d_X11_sure_83 (by decide) ?_
          refine r_pick [3, 4, 5, 1, 0] (ls' := [(0, .ref 0), (1, .int v1), (2, .int v2), (3, .int x7), (4, .int (v4 + (1 : Int32)))]) rfl ?_
          exact hk31 v2 x7 (v4 + (1 : Int32)) 
        · refine r_iload (pc := 69) 0 d_X11_sure_69 rfl ?_
          refine r_iload_n (pc := 71) 4 d_X11_sure_71 rfl rfl ?_
          refine r_icmp_eq (f := (oP Sh D)) (pc := 72) 77 d_X11_sure_72 (by decide) (fun c9 => ?_) (fun c9 => ?_)
          · refine r_iload (pc := 77) 0 d_X11_sure_77 rfl ?_
            refine r_istore_n (pc := 79) (ls' := [(3, .int x7), (5, .int x7), (0, .ref 0), (1, .int v1), (2, .int v2), (4, .int v4)]) d_X11_sure_79 rfl (Nat.le_of_ble_eq_true rfl) rfl ?_
            refine r_iinc (pc := 80) ((v4 + (1 : Int32))) 5 (ls' := [(4, .int (v4 + (1 : Int32))), (3, .int x7), (5, .int x7), (0, .ref 0), (1, .int v1), (2, .int v2)]) d_X11_sure_80 rfl rfl (Nat.le_of_ble_eq_true rfl) rfl ?_
            refine r_goto (pc := 83) 31 d_X11_sure_83 (by decide) ?_
            refine r_pick [3, 4, 5, 1, 0] (ls' := [(0, .ref 0), (1, .int v1), (2, .int v2), (3, .int x7), (4, .int (v4 + (1 : Int32)))]) rfl ?_
            exact hk31 v2 x7 (v4 + (1 : Int32)) 
          · refine r_iconst (pc := 75) (-1 : Int32) d_X11_sure_75 rfl ?_
            exact r_iret (pc := 76) rfl d_X11_sure_76
theorem s_X11_sure {X : zX} {Sh : zSh} {d : Nat} (hst : (zl X).stackTraces = false) (h0 : zSh0 Sh) (hd : 6 ≤ d) {v1 : Int32} {D : zD} : Sd X m_X11_sure d [.ref 0, .int v1] (Sh, D) ((oP Sh D) (fn_X11_sure v1 D)) := by
  obtain ⟨d, rfl⟩ : ∃ e, d = e + 1 := ⟨d - 1, by omega⟩
  replace hd : 5 ≤ d := by omega
  refine z_body ck_X11_sure rfl (Nat.le_of_ble_eq_true rfl) rfl hst ?_
  rw [fn_X11_sure]
  show Rn X m_X11_sure (d + 1) 0 [(0, .ref 0), (1, .int v1)] [] (Sh, D) _
  refine r_aload_n (pc := 0) 0 d_X11_sure_0 rfl rfl ?_
  refine q_cP (f := (oP Sh D)) (av := [.ref 0]) (st := []) (z_runV ck_X11_words rfl ml_X11_286 ci_X11_words cv_X11_words (K_0 h0) (ci := 11) rfl rfl (Nat.le_of_ble_eq_true rfl) d_X11_sure_1) (s_X11_words hst h0 (by omega)) kp_P (fun x1 _ => ?_)
  refine r_istore_n (pc := 4) (ls' := [(2, .int x1), (0, .ref 0), (1, .int v1)]) d_X11_sure_4 rfl (Nat.le_of_ble_eq_true rfl) rfl ?_
  refine r_iload_n (pc := 5) 2 d_X11_sure_5 rfl rfl ?_
  refine r_if_lt (f := (oP Sh D)) (pc := 6) 24 d_X11_sure_6 (by decide) (fun c2 => ?_) (fun c2 => ?_)
  · refine r_iconst (pc := 24) (-1 : Int32) d_X11_sure_24 rfl ?_
    exact r_iret (pc := 25) rfl d_X11_sure_25
  · refine r_iload_n (pc := 9) 2 d_X11_sure_9 rfl rfl ?_
    refine r_aload_n (pc := 10) 1 d_X11_sure_10 rfl rfl ?_
    refine r_getR (pc := 11) g_X11_55 (K_0 h0) rfl (R_0_6 h0) d_X11_sure_11 ?_
    refine q_gIn (pc := 14) g_X11_183 (K_57 h0) rfl d_X11_sure_14 ?_
    refine r_icmp_ge (f := (oP Sh D)) (pc := 17) 24 d_X11_sure_17 (by decide) (fun c3 => ?_) (fun c3 => ?_)
    · refine r_iconst (pc := 24) (-1 : Int32) d_X11_sure_24 rfl ?_
      exact r_iret (pc := 25) rfl d_X11_sure_25
    · refine r_iload_n (pc := 20) 0 d_X11_sure_20 rfl rfl ?_
      refine r_if_ne (f := (oP Sh D)) (pc := 21) 26 d_X11_sure_21 (by decide) (fun c4 => ?_) (fun c4 => ?_)
      · refine r_iconst (pc := 26) (-1 : Int32) d_X11_sure_26 rfl ?_
        refine r_istore_n (pc := 27) (ls' := [(3, .int (-1 : Int32)), (2, .int x1), (0, .ref 0), (1, .int v1)]) d_X11_sure_27 rfl (Nat.le_of_ble_eq_true rfl) rfl ?_
        refine r_iconst (pc := 28) (0 : Int32) d_X11_sure_28 rfl ?_
        refine r_istore (pc := 29) (ls' := [(4, .int (0 : Int32)), (3, .int (-1 : Int32)), (2, .int x1), (0, .ref 0), (1, .int v1)]) d_X11_sure_29 (Nat.le_of_ble_eq_true rfl) rfl ?_
        refine r_pick [3, 4, 2, 1, 0] (ls' := [(0, .ref 0), (1, .int v1), (2, .int x1), (3, .int (-1 : Int32)), (4, .int (0 : Int32))]) rfl ?_
        exact s_X11_sure_31 hst h0 hd D zFU  x1 (-1 : Int32) (0 : Int32)
      · refine r_iconst (pc := 24) (-1 : Int32) d_X11_sure_24 rfl ?_
        exact r_iret (pc := 25) rfl d_X11_sure_25
/-! CoveredSigns.least -/
theorem d_X11_least_0 : decode (yB m_X11_least) 0 = .ok (.aload_n 0, 1) := by decide +kernel
theorem d_X11_least_1 : decode (yB m_X11_least) 1 = .ok (.iload_n 1, 1) := by decide +kernel
theorem d_X11_least_2 : decode (yB m_X11_least) 2 = .ok (.invokevirtual 205, 3) := by decide +kernel
theorem d_X11_least_5 : decode (yB m_X11_least) 5 = .ok (.aload_n 0, 1) := by decide +kernel
theorem d_X11_least_6 : decode (yB m_X11_least) 6 = .ok (.iload_n 2, 1) := by decide +kernel
theorem d_X11_least_7 : decode (yB m_X11_least) 7 = .ok (.iconst 1, 1) := by decide +kernel
theorem d_X11_least_8 : decode (yB m_X11_least) 8 = .ok (.invokevirtual 245, 3) := by decide +kernel
theorem d_X11_least_11 : decode (yB m_X11_least) 11 = .ok (.bipush 10, 2) := by decide +kernel
theorem d_X11_least_13 : decode (yB m_X11_least) 13 = .ok (.iconst 2, 1) := by decide +kernel
theorem d_X11_least_14 : decode (yB m_X11_least) 14 = .ok (.iload_n 1, 1) := by decide +kernel
theorem d_X11_least_15 : decode (yB m_X11_least) 15 = .ok (.imul, 1) := by decide +kernel
theorem d_X11_least_16 : decode (yB m_X11_least) 16 = .ok (.iadd, 1) := by decide +kernel
theorem d_X11_least_17 : decode (yB m_X11_least) 17 = .ok (.istore_n 3, 1) := by decide +kernel
theorem d_X11_least_18 : decode (yB m_X11_least) 18 = .ok (.aload_n 0, 1) := by decide +kernel
theorem d_X11_least_19 : decode (yB m_X11_least) 19 = .ok (.iload_n 3, 1) := by decide +kernel
theorem d_X11_least_20 : decode (yB m_X11_least) 20 = .ok (.invokevirtual 249, 3) := by decide +kernel
theorem d_X11_least_23 : decode (yB m_X11_least) 23 = .ok (.ldc 115, 2) := by decide +kernel
theorem d_X11_least_25 : decode (yB m_X11_least) 25 = .ok (.if_icmp .ne 75, 3) := by decide +kernel
theorem d_X11_least_28 : decode (yB m_X11_least) 28 = .ok (.aload_n 0, 1) := by decide +kernel
theorem d_X11_least_29 : decode (yB m_X11_least) 29 = .ok (.getfield 89, 3) := by decide +kernel
theorem d_X11_least_32 : decode (yB m_X11_least) 32 = .ok (.aload_n 0, 1) := by decide +kernel
theorem d_X11_least_33 : decode (yB m_X11_least) 33 = .ok (.getfield 25, 3) := by decide +kernel
theorem d_X11_least_36 : decode (yB m_X11_least) 36 = .ok (.iload_n 1, 1) := by decide +kernel
theorem d_X11_least_37 : decode (yB m_X11_least) 37 = .ok (.iconst 2, 1) := by decide +kernel
theorem d_X11_least_38 : decode (yB m_X11_least) 38 = .ok (.aload_n 0, 1) := by decide +kernel
theorem d_X11_least_39 : decode (yB m_X11_least) 39 = .ok (.getfield 55, 3) := by decide +kernel
theorem d_X11_least_42 : decode (yB m_X11_least) 42 = .ok (.getfield 195, 3) := by decide +kernel
theorem d_X11_least_45 : decode (yB m_X11_least) 45 = .ok (.imul, 1) := by decide +kernel
theorem d_X11_least_46 : decode (yB m_X11_least) 46 = .ok (.iconst 1, 1) := by decide +kernel
theorem d_X11_least_47 : decode (yB m_X11_least) 47 = .ok (.iadd, 1) := by decide +kernel
theorem d_X11_least_48 : decode (yB m_X11_least) 48 = .ok (.invokevirtual 288, 3) := by decide +kernel
theorem d_X11_least_51 : decode (yB m_X11_least) 51 = .ok (.istore 4, 2) := by decide +kernel
theorem d_X11_least_53 : decode (yB m_X11_least) 53 = .ok (.aload_n 0, 1) := by decide +kernel
theorem d_X11_least_54 : decode (yB m_X11_least) 54 = .ok (.iload_n 3, 1) := by decide +kernel
theorem d_X11_least_55 : decode (yB m_X11_least) 55 = .ok (.iload 4, 2) := by decide +kernel
theorem d_X11_least_57 : decode (yB m_X11_least) 57 = .ok (.ifCond .eq 16, 3) := by decide +kernel
theorem d_X11_least_60 : decode (yB m_X11_least) 60 = .ok (.aload_n 0, 1) := by decide +kernel
theorem d_X11_least_61 : decode (yB m_X11_least) 61 = .ok (.getfield 89, 3) := by decide +kernel
theorem d_X11_least_64 : decode (yB m_X11_least) 64 = .ok (.getfield 292, 3) := by decide +kernel
theorem d_X11_least_67 : decode (yB m_X11_least) 67 = .ok (.invokestatic 295, 3) := by decide +kernel
theorem d_X11_least_70 : decode (yB m_X11_least) 70 = .ok (.goto 4, 3) := by decide +kernel
theorem d_X11_least_73 : decode (yB m_X11_least) 73 = .ok (.iconst (-1), 1) := by decide +kernel
theorem d_X11_least_74 : decode (yB m_X11_least) 74 = .ok (.invokevirtual 256, 3) := by decide +kernel
theorem d_X11_least_77 : decode (yB m_X11_least) 77 = .ok (.aload_n 0, 1) := by decide +kernel
theorem d_X11_least_78 : decode (yB m_X11_least) 78 = .ok (.iload_n 3, 1) := by decide +kernel
theorem d_X11_least_79 : decode (yB m_X11_least) 79 = .ok (.iconst 1, 1) := by decide +kernel
theorem d_X11_least_80 : decode (yB m_X11_least) 80 = .ok (.iadd, 1) := by decide +kernel
theorem d_X11_least_81 : decode (yB m_X11_least) 81 = .ok (.iload 4, 2) := by decide +kernel
theorem d_X11_least_83 : decode (yB m_X11_least) 83 = .ok (.ifCond .eq 13, 3) := by decide +kernel
theorem d_X11_least_86 : decode (yB m_X11_least) 86 = .ok (.aload_n 0, 1) := by decide +kernel
theorem d_X11_least_87 : decode (yB m_X11_least) 87 = .ok (.getfield 89, 3) := by decide +kernel
theorem d_X11_least_90 : decode (yB m_X11_least) 90 = .ok (.getfield 292, 3) := by decide +kernel
theorem d_X11_least_93 : decode (yB m_X11_least) 93 = .ok (.goto 4, 3) := by decide +kernel
theorem d_X11_least_96 : decode (yB m_X11_least) 96 = .ok (.iconst (-1), 1) := by decide +kernel
theorem d_X11_least_97 : decode (yB m_X11_least) 97 = .ok (.invokevirtual 256, 3) := by decide +kernel
theorem d_X11_least_100 : decode (yB m_X11_least) 100 = .ok (.aload_n 0, 1) := by decide +kernel
theorem d_X11_least_101 : decode (yB m_X11_least) 101 = .ok (.iload_n 3, 1) := by decide +kernel
theorem d_X11_least_102 : decode (yB m_X11_least) 102 = .ok (.iload_n 2, 1) := by decide +kernel
theorem d_X11_least_103 : decode (yB m_X11_least) 103 = .ok (.iadd, 1) := by decide +kernel
theorem d_X11_least_104 : decode (yB m_X11_least) 104 = .ok (.invokevirtual 249, 3) := by decide +kernel
theorem d_X11_least_107 : decode (yB m_X11_least) 107 = .ok (.ireturn, 1) := by decide +kernel
def fn_X11_least_100 (v1 : Int32) (v2 : Int32) (v3 : Int32) (D : zD) : Option ((Nat ⊕ Int32) × zD) := (fn_X11_keptAt (v3 + v2) D).bind fun x8 => (some (.inr x8, D))
def fn_X11_least_97 (v1 : Int32) (v2 : Int32) (v3 : Int32) (w1 : Int32) (w2 : Int32) (D : zD) : Option ((Nat ⊕ Int32) × zD) := (fn_X11_keep w1 w2 D).bind fun D13 => (fn_X11_least_100 v1 v2 v3 D13)
def fn_X11_least_74 (v1 : Int32) (v2 : Int32) (v3 : Int32) (v4 : Int32) (w1 : Int32) (w2 : Int32) (D : zD) : Option ((Nat ⊕ Int32) × zD) := (fn_X11_keep w1 w2 D).bind fun D11 => (if v4 = 0 then ((fn_X11_least_97 v1 v2 v3 (v3 + (1 : Int32)) (-1 : Int32) D11)) else ((fn_X11_least_97 v1 v2 v3 (v3 + (1 : Int32)) (gI D11 90 3) D11)))
def fn_X11_least (v1 : Int32) (v2 : Int32) (D : zD) : Option ((Nat ⊕ Int32) × zD) := (fn_X11_needSign v1 D).bind fun e1 => if e1 = 0 then ((fn_X11_needWhat v2 (1 : Int32)).bind fun e3 => if e3 = 0 then (zlet ((10 : Int32) + ((2 : Int32) * v1)) fun x5 => (fn_X11_keptAt x5 D).bind fun x6 => (if x6 = (-1000000 : Int32) then ((fn_X4_find 3 v1 (((2 : Int32) * (gI D 57 0)) + (1 : Int32)) D).bind fun q9 => (if q9.1 = 0 then ((fn_X11_least_74 v1 v2 x5 q9.1 x5 (-1 : Int32) q9.2)) else ((fn_JI_bitCount (gI q9.2 90 3)).bind fun x14 => (fn_X11_least_74 v1 v2 x5 q9.1 x5 x14 q9.2)))) else ((fn_X11_least_100 v1 v2 x5 D)))) else some (.inl e3, D)) else some (.inl e1, D)
theorem s_X11_least_100 {X : zX} {Sh : zSh} {d : Nat} (hst : (zl X).stackTraces = false) (h0 : zSh0 Sh) (hd : 103 ≤ d) {v1 : Int32} {v2 : Int32} (v3 : Int32) (D : zD)  : Rn X m_X11_least (d + 1) 100 [(0, .ref 0), (2, .int v2), (3, .int v3)] [] (Sh, D) ((oXI Sh) (fn_X11_least_100 v1 v2 v3 D)) := by
  rw [fn_X11_least_100]
  refine r_aload_n (pc := 100) 0 d_X11_least_100 rfl rfl ?_
  refine r_iload_n (pc := 101) 2 d_X11_least_101 rfl rfl ?_
  refine r_iload_n (pc := 102) 1 d_X11_least_102 rfl rfl ?_
  refine r_iadd (pc := 103) d_X11_least_103 ?_
  refine q_cP (f := (oXI Sh)) (av := [.ref 0, .int (v3 + v2)]) (st := []) (z_runV ck_X11_keptAt rfl ml_X11_249 ci_X11_keptAt cv_X11_keptAt (K_0 h0) (ci := 11) rfl rfl (Nat.le_of_ble_eq_true rfl) d_X11_least_104) (s_X11_keptAt hst h0 (by omega)) kp_XI (fun x8 _ => ?_)
  exact r_iret (pc := 107) rfl d_X11_least_107
theorem s_X11_least_97 {X : zX} {Sh : zSh} {d : Nat} (hst : (zl X).stackTraces = false) (h0 : zSh0 Sh) (hd : 103 ≤ d) {v1 : Int32} {v2 : Int32} (v3 : Int32) (w1 : Int32) (w2 : Int32) (D : zD)  : Rn X m_X11_least (d + 1) 97 [(0, .ref 0), (2, .int v2), (3, .int v3)] [.int w2, .int w1, .ref 0] (Sh, D) ((oXI Sh) (fn_X11_least_97 v1 v2 v3 w1 w2 D)) := by
  rw [fn_X11_least_97]
  refine q_cV (f := (oXI Sh)) (av := [.ref 0, .int w1, .int w2]) (st := []) (z_runV ck_X11_keep rfl ml_X11_256 ci_X11_keep cv_X11_keep (K_0 h0) (ci := 11) rfl rfl (Nat.le_of_ble_eq_true rfl) d_X11_least_97) (s_X11_keep hst h0 (by omega)) kp_XI (fun D13 _ => ?_)
  refine r_pick [0, 1, 2] (ls' := [(0, .ref 0), (2, .int v2), (3, .int v3)]) rfl ?_
  exact s_X11_least_100 hst h0 hd v3 D13
theorem s_X11_least_74 {X : zX} {Sh : zSh} {d : Nat} (hst : (zl X).stackTraces = false) (h0 : zSh0 Sh) (hd : 103 ≤ d) {v1 : Int32} {v2 : Int32} (v3 : Int32) (v4 : Int32) (w1 : Int32) (w2 : Int32) (D : zD)  : Rn X m_X11_least (d + 1) 74 [(0, .ref 0), (2, .int v2), (3, .int v3), (4, .int v4)] [.int w2, .int w1, .ref 0] (Sh, D) ((oXI Sh) (fn_X11_least_74 v1 v2 v3 v4 w1 w2 D)) := by
  rw [fn_X11_least_74]
  refine q_cV (f := (oXI Sh)) (av := [.ref 0, .int w1, .int w2]) (st := []) (z_runV ck_X11_keep rfl ml_X11_256 ci_X11_keep cv_X11_keep (K_0 h0) (ci := 11) rfl rfl (Nat.le_of_ble_eq_true rfl) d_X11_least_74) (s_X11_keep hst h0 (by omega)) kp_XI (fun D11 _ => ?_)
  refine r_aload_n (pc := 77) 0 d_X11_least_77 rfl rfl ?_
  refine r_iload_n (pc := 78) 2 d_X11_least_78 rfl rfl ?_
  refine r_iconst (pc := 79) (1 : Int32) d_X11_least_79 rfl ?_
  refine r_iadd (pc := 80) d_X11_least_80 ?_
  refine r_iload (pc := 81) 3 d_X11_least_81 rfl ?_
  refine r_if_eq (f := (oXI Sh)) (pc := 83) 96 d_X11_least_83 (by decide) (fun c12 => ?_) (fun c12 => ?_)
  · refine r_iconst (pc := 96) (-1 : Int32) d_X11_least_96 rfl ?_
    refine r_pick [0, 1, 2] (ls' := [(0, .ref 0), (2, .int v2), (3, .int v3)]) rfl ?_
    exact s_X11_least_97 hst h0 hd v3 (v3 + (1 : Int32)) (-1 : Int32) D11
  · refine r_aload_n (pc := 86) 0 d_X11_least_86 rfl rfl ?_
    refine r_getR (pc := 87) g_X11_89 (K_0 h0) rfl (R_0_12 h0) d_X11_least_87 ?_
    refine q_gIn (pc := 90) g_X11_292 (K_90 h0) rfl d_X11_least_90 ?_
    refine r_goto (pc := 93) 97 d_X11_least_93 (by decide) ?_
    refine r_pick [0, 1, 2] (ls' := [(0, .ref 0), (2, .int v2), (3, .int v3)]) rfl ?_
    exact s_X11_least_97 hst h0 hd v3 (v3 + (1 : Int32)) (gI D11 90 3) D11
theorem s_X11_least {X : zX} {Sh : zSh} {d : Nat} (hst : (zl X).stackTraces = false) (h0 : zSh0 Sh) (hd : 104 ≤ d) {v1 : Int32} {v2 : Int32} {D : zD} : Sd X m_X11_least d [.ref 0, .int v1, .int v2] (Sh, D) ((oXI Sh) (fn_X11_least v1 v2 D)) := by
  obtain ⟨d, rfl⟩ : ∃ e, d = e + 1 := ⟨d - 1, by omega⟩
  replace hd : 103 ≤ d := by omega
  refine z_body ck_X11_least rfl (Nat.le_of_ble_eq_true rfl) rfl hst ?_
  rw [fn_X11_least]
  show Rn X m_X11_least (d + 1) 0 [(0, .ref 0), (1, .int v1), (2, .int v2)] [] (Sh, D) _
  refine r_aload_n (pc := 0) 0 d_X11_least_0 rfl rfl ?_
  refine r_iload_n (pc := 1) 1 d_X11_least_1 rfl rfl ?_
  refine q_cN (f := (oXI Sh)) (t := fun e1 => some (.inl e1, D)) (av := [.ref 0, .int v1]) (st := []) (z_runV ck_X11_needSign rfl ml_X11_205 ci_X11_needSign cv_X11_needSign (K_0 h0) (ci := 11) rfl rfl (Nat.le_of_ble_eq_true rfl) d_X11_least_2) (s_X11_needSign hst h0 (by omega)) rfl kp_XI (fun _ _ => rfl) ?_
  refine r_aload_n (pc := 5) 0 d_X11_least_5 rfl rfl ?_
  refine r_iload_n (pc := 6) 2 d_X11_least_6 rfl rfl ?_
  refine r_iconst (pc := 7) (1 : Int32) d_X11_least_7 rfl ?_
  refine q_cN (f := (oXI Sh)) (t := fun e3 => some (.inl e3, D)) (av := [.ref 0, .int v2, .int (1 : Int32)]) (st := []) (z_runV ck_X11_needWhat rfl ml_X11_245 ci_X11_needWhat cv_X11_needWhat (K_0 h0) (ci := 11) rfl rfl (Nat.le_of_ble_eq_true rfl) d_X11_least_8) (s_X11_needWhat hst h0 (by omega)) rfl kp_XI (fun _ _ => rfl) ?_
  refine r_bipush (pc := 11) (10 : Int32) d_X11_least_11 rfl ?_
  refine r_iconst (pc := 13) (2 : Int32) d_X11_least_13 rfl ?_
  refine r_iload_n (pc := 14) 1 d_X11_least_14 rfl rfl ?_
  refine r_imul (pc := 15) d_X11_least_15 ?_
  refine r_iadd (pc := 16) d_X11_least_16 ?_
  refine r_leti (f := (oXI Sh)) (fun x5 => ?_)
  refine r_istore_n (pc := 17) (ls' := [(3, .int x5), (0, .ref 0), (1, .int v1), (2, .int v2)]) d_X11_least_17 rfl (Nat.le_of_ble_eq_true rfl) rfl ?_
  refine r_aload_n (pc := 18) 1 d_X11_least_18 rfl rfl ?_
  refine r_iload_n (pc := 19) 0 d_X11_least_19 rfl rfl ?_
  refine q_cP (f := (oXI Sh)) (av := [.ref 0, .int x5]) (st := []) (z_runV ck_X11_keptAt rfl ml_X11_249 ci_X11_keptAt cv_X11_keptAt (K_0 h0) (ci := 11) rfl rfl (Nat.le_of_ble_eq_true rfl) d_X11_least_20) (s_X11_keptAt hst h0 (by omega)) kp_XI (fun x6 _ => ?_)
  refine r_ldc (pc := 23) d_X11_least_23 cc_X11_115 ?_
  refine r_icmp_ne (f := (oXI Sh)) (pc := 25) 100 d_X11_least_25 (by decide) (fun c7 => ?_) (fun c7 => ?_)
  · refine r_pick [1, 3, 0] (ls' := [(0, .ref 0), (2, .int v2), (3, .int x5)]) rfl ?_
    exact s_X11_least_100 hst h0 hd x5 D
  · refine r_aload_n (pc := 28) 1 d_X11_least_28 rfl rfl ?_
    refine r_getR (pc := 29) g_X11_89 (K_0 h0) rfl (R_0_12 h0) d_X11_least_29 ?_
    refine r_aload_n (pc := 32) 1 d_X11_least_32 rfl rfl ?_
    refine r_getR (pc := 33) g_X11_25 (K_0 h0) rfl (R_0_2 h0) d_X11_least_33 ?_
    refine r_iload_n (pc := 36) 2 d_X11_least_36 rfl rfl ?_
    refine r_iconst (pc := 37) (2 : Int32) d_X11_least_37 rfl ?_
    refine r_aload_n (pc := 38) 1 d_X11_least_38 rfl rfl ?_
    refine r_getR (pc := 39) g_X11_55 (K_0 h0) rfl (R_0_6 h0) d_X11_least_39 ?_
    refine q_gIn (pc := 42) g_X11_195 (K_57 h0) rfl d_X11_least_42 ?_
    refine r_imul (pc := 45) d_X11_least_45 ?_
    refine r_iconst (pc := 46) (1 : Int32) d_X11_least_46 rfl ?_
    refine r_iadd (pc := 47) d_X11_least_47 ?_
    refine q_cI (f := (oXI Sh)) (av := [.ref 90, .ref 3, .int v1, .int (((2 : Int32) * (gI D 57 0)) + (1 : Int32))]) (st := []) (z_runV ck_X4_find rfl ml_X11_288 ci_X4_find cv_X4_find (K_90 h0) (ci := 4) rfl rfl (Nat.le_of_ble_eq_true rfl) d_X11_least_48) (s_X4_find hst h0 (by omega) (I_3)) kp_XI (fun q9 _ => ?_)
    refine r_istore (pc := 51) (ls' := [(4, .int q9.1), (3, .int x5), (0, .ref 0), (1, .int v1), (2, .int v2)]) d_X11_least_51 (Nat.le_of_ble_eq_true rfl) rfl ?_
    refine r_aload_n (pc := 53) 2 d_X11_least_53 rfl rfl ?_
    refine r_iload_n (pc := 54) 1 d_X11_least_54 rfl rfl ?_
    refine r_iload (pc := 55) 0 d_X11_least_55 rfl ?_
    refine r_if_eq (f := (oXI Sh)) (pc := 57) 73 d_X11_least_57 (by decide) (fun c10 => ?_) (fun c10 => ?_)
    · refine r_iconst (pc := 73) (-1 : Int32) d_X11_least_73 rfl ?_
      refine r_pick [2, 4, 1, 0] (ls' := [(0, .ref 0), (2, .int v2), (3, .int x5), (4, .int q9.1)]) rfl ?_
      exact s_X11_least_74 hst h0 hd x5 q9.1 x5 (-1 : Int32) q9.2
    · refine r_aload_n (pc := 60) 2 d_X11_least_60 rfl rfl ?_
      refine r_getR (pc := 61) g_X11_89 (K_0 h0) rfl (R_0_12 h0) d_X11_least_61 ?_
      refine q_gIn (pc := 64) g_X11_292 (K_90 h0) rfl d_X11_least_64 ?_
      refine q_cP (f := (oXI Sh)) (av := [.int (gI q9.2 90 3)]) (st := [.int x5, .ref 0]) (z_runS ck_JI_bitCount rfl ml_X11_295 cs_JI_bitCount rfl (Nat.le_of_ble_eq_true rfl) d_X11_least_67) (s_JI_bitCount hst h0 (by omega)) kp_XI (fun x14 _ => ?_)
      refine r_goto (pc := 70) 74 d_X11_least_70 (by decide) ?_
      refine r_pick [2, 4, 1, 0] (ls' := [(0, .ref 0), (2, .int v2), (3, .int x5), (4, .int q9.1)]) rfl ?_
      exact s_X11_least_74 hst h0 hd x5 q9.1 x5 x14 q9.2
/-! CoveredSigns.strokes -/
theorem d_X11_strokes_0 : decode (yB m_X11_strokes) 0 = .ok (.aload_n 0, 1) := by decide +kernel
theorem d_X11_strokes_1 : decode (yB m_X11_strokes) 1 = .ok (.iload_n 1, 1) := by decide +kernel
theorem d_X11_strokes_2 : decode (yB m_X11_strokes) 2 = .ok (.invokevirtual 205, 3) := by decide +kernel
theorem d_X11_strokes_5 : decode (yB m_X11_strokes) 5 = .ok (.aload_n 0, 1) := by decide +kernel
theorem d_X11_strokes_6 : decode (yB m_X11_strokes) 6 = .ok (.getfield 25, 3) := by decide +kernel
theorem d_X11_strokes_9 : decode (yB m_X11_strokes) 9 = .ok (.aload_n 0, 1) := by decide +kernel
theorem d_X11_strokes_10 : decode (yB m_X11_strokes) 10 = .ok (.getfield 25, 3) := by decide +kernel
theorem d_X11_strokes_13 : decode (yB m_X11_strokes) 13 = .ok (.iload_n 1, 1) := by decide +kernel
theorem d_X11_strokes_14 : decode (yB m_X11_strokes) 14 = .ok (.invokevirtual 208, 3) := by decide +kernel
theorem d_X11_strokes_17 : decode (yB m_X11_strokes) 17 = .ok (.invokevirtual 300, 3) := by decide +kernel
theorem d_X11_strokes_20 : decode (yB m_X11_strokes) 20 = .ok (.ireturn, 1) := by decide +kernel
def fn_X11_strokes (v1 : Int32) (D : zD) : Option ((Nat ⊕ Int32) × zD) := (fn_X11_needSign v1 D).bind fun e1 => if e1 = 0 then ((fn_X0_paintOf 3 v1 D).bind fun x3 => (fn_X0_fewestRows 3 x3 D).bind fun q4 => (some (.inr q4.1, q4.2))) else some (.inl e1, D)
theorem s_X11_strokes {X : zX} {Sh : zSh} {d : Nat} (hst : (zl X).stackTraces = false) (h0 : zSh0 Sh) (hd : 102 ≤ d) {v1 : Int32} {D : zD} : Sd X m_X11_strokes d [.ref 0, .int v1] (Sh, D) ((oXI Sh) (fn_X11_strokes v1 D)) := by
  obtain ⟨d, rfl⟩ : ∃ e, d = e + 1 := ⟨d - 1, by omega⟩
  replace hd : 101 ≤ d := by omega
  refine z_body ck_X11_strokes rfl (Nat.le_of_ble_eq_true rfl) rfl hst ?_
  rw [fn_X11_strokes]
  show Rn X m_X11_strokes (d + 1) 0 [(0, .ref 0), (1, .int v1)] [] (Sh, D) _
  refine r_aload_n (pc := 0) 0 d_X11_strokes_0 rfl rfl ?_
  refine r_iload_n (pc := 1) 1 d_X11_strokes_1 rfl rfl ?_
  refine q_cN (f := (oXI Sh)) (t := fun e1 => some (.inl e1, D)) (av := [.ref 0, .int v1]) (st := []) (z_runV ck_X11_needSign rfl ml_X11_205 ci_X11_needSign cv_X11_needSign (K_0 h0) (ci := 11) rfl rfl (Nat.le_of_ble_eq_true rfl) d_X11_strokes_2) (s_X11_needSign hst h0 (by omega)) rfl kp_XI (fun _ _ => rfl) ?_
  refine r_aload_n (pc := 5) 0 d_X11_strokes_5 rfl rfl ?_
  refine r_getR (pc := 6) g_X11_25 (K_0 h0) rfl (R_0_2 h0) d_X11_strokes_6 ?_
  refine r_aload_n (pc := 9) 0 d_X11_strokes_9 rfl rfl ?_
  refine r_getR (pc := 10) g_X11_25 (K_0 h0) rfl (R_0_2 h0) d_X11_strokes_10 ?_
  refine r_iload_n (pc := 13) 1 d_X11_strokes_13 rfl rfl ?_
  refine q_cP (f := (oXI Sh)) (av := [.ref 3, .int v1]) (st := [.ref 3]) (z_runV ck_X0_paintOf rfl ml_X11_208 ci_X0_paintOf cv_X0_paintOf (K_3 h0) (ci := 0) rfl rfl (Nat.le_of_ble_eq_true rfl) d_X11_strokes_14) (s_X0_paintOf hst h0 (by omega) (I_3)) kp_XI (fun x3 _ => ?_)
  refine q_cI (f := (oXI Sh)) (av := [.ref 3, .int x3]) (st := []) (z_runV ck_X0_fewestRows rfl ml_X11_300 ci_X0_fewestRows cv_X0_fewestRows (K_3 h0) (ci := 0) rfl rfl (Nat.le_of_ble_eq_true rfl) d_X11_strokes_17) (s_X0_fewestRows hst h0 (by omega) (I_3)) kp_XI (fun q4 _ => ?_)
  exact r_iret (pc := 20) rfl d_X11_strokes_20
/-! CoveredSigns.akin -/
theorem d_X11_akin_0 : decode (yB m_X11_akin) 0 = .ok (.iload_n 1, 1) := by decide +kernel
theorem d_X11_akin_1 : decode (yB m_X11_akin) 1 = .ok (.ifCond .lt 8, 3) := by decide +kernel
theorem d_X11_akin_4 : decode (yB m_X11_akin) 4 = .ok (.iload_n 1, 1) := by decide +kernel
theorem d_X11_akin_5 : decode (yB m_X11_akin) 5 = .ok (.iconst 3, 1) := by decide +kernel
theorem d_X11_akin_6 : decode (yB m_X11_akin) 6 = .ok (.if_icmp .le 14, 3) := by decide +kernel
theorem d_X11_akin_9 : decode (yB m_X11_akin) 9 = .ok (.new 198, 3) := by decide +kernel
theorem d_X11_akin_12 : decode (yB m_X11_akin) 12 = .ok (.dup, 1) := by decide +kernel
theorem d_X11_akin_13 : decode (yB m_X11_akin) 13 = .ok (.ldc_w 303, 3) := by decide +kernel
theorem d_X11_akin_16 : decode (yB m_X11_akin) 16 = .ok (.invokespecial 202, 3) := by decide +kernel
theorem d_X11_akin_19 : decode (yB m_X11_akin) 19 = .ok (.athrow, 1) := by decide +kernel
theorem d_X11_akin_20 : decode (yB m_X11_akin) 20 = .ok (.aload_n 0, 1) := by decide +kernel
theorem d_X11_akin_21 : decode (yB m_X11_akin) 21 = .ok (.iload_n 2, 1) := by decide +kernel
theorem d_X11_akin_22 : decode (yB m_X11_akin) 22 = .ok (.iconst 1, 1) := by decide +kernel
theorem d_X11_akin_23 : decode (yB m_X11_akin) 23 = .ok (.invokevirtual 245, 3) := by decide +kernel
theorem d_X11_akin_26 : decode (yB m_X11_akin) 26 = .ok (.aload_n 0, 1) := by decide +kernel
theorem d_X11_akin_27 : decode (yB m_X11_akin) 27 = .ok (.getfield 25, 3) := by decide +kernel
theorem d_X11_akin_30 : decode (yB m_X11_akin) 30 = .ok (.iload_n 1, 1) := by decide +kernel
theorem d_X11_akin_31 : decode (yB m_X11_akin) 31 = .ok (.invokevirtual 305, 3) := by decide +kernel
theorem d_X11_akin_34 : decode (yB m_X11_akin) 34 = .ok (.istore_n 3, 1) := by decide +kernel
theorem d_X11_akin_35 : decode (yB m_X11_akin) 35 = .ok (.iload_n 3, 1) := by decide +kernel
theorem d_X11_akin_36 : decode (yB m_X11_akin) 36 = .ok (.iconst (-1), 1) := by decide +kernel
theorem d_X11_akin_37 : decode (yB m_X11_akin) 37 = .ok (.if_icmp .eq 7, 3) := by decide +kernel
theorem d_X11_akin_40 : decode (yB m_X11_akin) 40 = .ok (.iload_n 2, 1) := by decide +kernel
theorem d_X11_akin_41 : decode (yB m_X11_akin) 41 = .ok (.ifCond .ne 5, 3) := by decide +kernel
theorem d_X11_akin_44 : decode (yB m_X11_akin) 44 = .ok (.iload_n 3, 1) := by decide +kernel
theorem d_X11_akin_45 : decode (yB m_X11_akin) 45 = .ok (.ireturn, 1) := by decide +kernel
theorem d_X11_akin_46 : decode (yB m_X11_akin) 46 = .ok (.aload_n 0, 1) := by decide +kernel
theorem d_X11_akin_47 : decode (yB m_X11_akin) 47 = .ok (.getfield 25, 3) := by decide +kernel
theorem d_X11_akin_50 : decode (yB m_X11_akin) 50 = .ok (.iload_n 3, 1) := by decide +kernel
theorem d_X11_akin_51 : decode (yB m_X11_akin) 51 = .ok (.bipush 100, 2) := by decide +kernel
theorem d_X11_akin_53 : decode (yB m_X11_akin) 53 = .ok (.idiv, 1) := by decide +kernel
theorem d_X11_akin_54 : decode (yB m_X11_akin) 54 = .ok (.iload_n 3, 1) := by decide +kernel
theorem d_X11_akin_55 : decode (yB m_X11_akin) 55 = .ok (.bipush 100, 2) := by decide +kernel
theorem d_X11_akin_57 : decode (yB m_X11_akin) 57 = .ok (.irem, 1) := by decide +kernel
theorem d_X11_akin_58 : decode (yB m_X11_akin) 58 = .ok (.invokevirtual 308, 3) := by decide +kernel
theorem d_X11_akin_61 : decode (yB m_X11_akin) 61 = .ok (.ireturn, 1) := by decide +kernel
def fn_X11_akin (v1 : Int32) (v2 : Int32) (D : zD) : Option (Nat ⊕ Int32) := (if v1 < 0 then ((some (.inl 1))) else ((if v1 ≤ (3 : Int32) then ((fn_X11_needWhat v2 (1 : Int32)).bind fun e3 => if e3 = 0 then ((fn_X0_unlikestPair 3 v1 D).bind fun x5 => (if x5 = (-1 : Int32) then ((some (.inr x5))) else ((if v2 = 0 then ((some (.inr x5))) else (zdv (100 : Int32) <| zdv (100 : Int32) <| (fn_X0_unlikeCells 3 (x5 / (100 : Int32)) (x5 - x5 / (100 : Int32) * (100 : Int32)) D).bind fun x8 => (some (.inr x8))))))) else some (.inl e3)) else ((some (.inl 1))))))
theorem s_X11_akin {X : zX} {Sh : zSh} {d : Nat} (hst : (zl X).stackTraces = false) (h0 : zSh0 Sh) (hd : 9 ≤ d) {v1 : Int32} {v2 : Int32} {D : zD} : Sd X m_X11_akin d [.ref 0, .int v1, .int v2] (Sh, D) ((oXP Sh D) (fn_X11_akin v1 v2 D)) := by
  obtain ⟨d, rfl⟩ : ∃ e, d = e + 1 := ⟨d - 1, by omega⟩
  replace hd : 8 ≤ d := by omega
  refine z_body ck_X11_akin rfl (Nat.le_of_ble_eq_true rfl) rfl hst ?_
  rw [fn_X11_akin]
  show Rn X m_X11_akin (d + 1) 0 [(0, .ref 0), (1, .int v1), (2, .int v2)] [] (Sh, D) _
  refine r_iload_n (pc := 0) 1 d_X11_akin_0 rfl rfl ?_
  refine r_if_lt (f := (oXP Sh D)) (pc := 1) 9 d_X11_akin_1 (by decide) (fun c1 => ?_) (fun c1 => ?_)
  · exact r_throwW tw_X11_303 d_X11_akin_9 d_X11_akin_12 d_X11_akin_13 d_X11_akin_16 d_X11_akin_19 rfl (by omega) (Nat.le_of_ble_eq_true rfl)
  · refine r_iload_n (pc := 4) 1 d_X11_akin_4 rfl rfl ?_
    refine r_iconst (pc := 5) (3 : Int32) d_X11_akin_5 rfl ?_
    refine r_icmp_le (f := (oXP Sh D)) (pc := 6) 20 d_X11_akin_6 (by decide) (fun c2 => ?_) (fun c2 => ?_)
    · refine r_aload_n (pc := 20) 0 d_X11_akin_20 rfl rfl ?_
      refine r_iload_n (pc := 21) 2 d_X11_akin_21 rfl rfl ?_
      refine r_iconst (pc := 22) (1 : Int32) d_X11_akin_22 rfl ?_
      refine q_cN (f := (oXP Sh D)) (t := fun e3 => some (.inl e3)) (av := [.ref 0, .int v2, .int (1 : Int32)]) (st := []) (z_runV ck_X11_needWhat rfl ml_X11_245 ci_X11_needWhat cv_X11_needWhat (K_0 h0) (ci := 11) rfl rfl (Nat.le_of_ble_eq_true rfl) d_X11_akin_23) (s_X11_needWhat hst h0 (by omega)) rfl kp_XP (fun _ _ => rfl) ?_
      refine r_aload_n (pc := 26) 0 d_X11_akin_26 rfl rfl ?_
      refine r_getR (pc := 27) g_X11_25 (K_0 h0) rfl (R_0_2 h0) d_X11_akin_27 ?_
      refine r_iload_n (pc := 30) 1 d_X11_akin_30 rfl rfl ?_
      refine q_cP (f := (oXP Sh D)) (av := [.ref 3, .int v1]) (st := []) (z_runV ck_X0_unlikestPair rfl ml_X11_305 ci_X0_unlikestPair cv_X0_unlikestPair (K_3 h0) (ci := 0) rfl rfl (Nat.le_of_ble_eq_true rfl) d_X11_akin_31) (s_X0_unlikestPair hst h0 (by omega) (I_3)) kp_XP (fun x5 _ => ?_)
      refine r_istore_n (pc := 34) (ls' := [(3, .int x5), (0, .ref 0), (1, .int v1), (2, .int v2)]) d_X11_akin_34 rfl (Nat.le_of_ble_eq_true rfl) rfl ?_
      refine r_iload_n (pc := 35) 0 d_X11_akin_35 rfl rfl ?_
      refine r_iconst (pc := 36) (-1 : Int32) d_X11_akin_36 rfl ?_
      refine r_icmp_eq (f := (oXP Sh D)) (pc := 37) 44 d_X11_akin_37 (by decide) (fun c6 => ?_) (fun c6 => ?_)
      · refine r_iload_n (pc := 44) 0 d_X11_akin_44 rfl rfl ?_
        exact r_iret (pc := 45) rfl d_X11_akin_45
      · refine r_iload_n (pc := 40) 3 d_X11_akin_40 rfl rfl ?_
        refine r_if_ne (f := (oXP Sh D)) (pc := 41) 46 d_X11_akin_41 (by decide) (fun c7 => ?_) (fun c7 => ?_)
        · refine r_aload_n (pc := 46) 1 d_X11_akin_46 rfl rfl ?_
          refine r_getR (pc := 47) g_X11_25 (K_0 h0) rfl (R_0_2 h0) d_X11_akin_47 ?_
          refine r_iload_n (pc := 50) 0 d_X11_akin_50 rfl rfl ?_
          refine r_bipush (pc := 51) (100 : Int32) d_X11_akin_51 rfl ?_
          refine r_idiv (f := (oXP Sh D)) (pc := 53) d_X11_akin_53 rfl ?_
          refine r_iload_n (pc := 54) 0 d_X11_akin_54 rfl rfl ?_
          refine r_bipush (pc := 55) (100 : Int32) d_X11_akin_55 rfl ?_
          refine r_irem (f := (oXP Sh D)) (pc := 57) d_X11_akin_57 rfl ?_
          refine q_cP (f := (oXP Sh D)) (av := [.ref 3, .int (x5 / (100 : Int32)), .int (x5 - x5 / (100 : Int32) * (100 : Int32))]) (st := []) (z_runV ck_X0_unlikeCells rfl ml_X11_308 ci_X0_unlikeCells cv_X0_unlikeCells (K_3 h0) (ci := 0) rfl rfl (Nat.le_of_ble_eq_true rfl) d_X11_akin_58) (s_X0_unlikeCells hst h0 (by omega) (I_3)) kp_XP (fun x8 _ => ?_)
          exact r_iret (pc := 61) rfl d_X11_akin_61
        · refine r_iload_n (pc := 44) 0 d_X11_akin_44 rfl rfl ?_
          exact r_iret (pc := 45) rfl d_X11_akin_45
    · exact r_throwW tw_X11_303 d_X11_akin_9 d_X11_akin_12 d_X11_akin_13 d_X11_akin_16 d_X11_akin_19 rfl (by omega) (Nat.le_of_ble_eq_true rfl)
/-! CoveredSigns.strangers -/
theorem d_X11_strangers_0 : decode (yB m_X11_strangers) 0 = .ok (.iconst 0, 1) := by decide +kernel
theorem d_X11_strangers_1 : decode (yB m_X11_strangers) 1 = .ok (.istore_n 1, 1) := by decide +kernel
theorem d_X11_strangers_2 : decode (yB m_X11_strangers) 2 = .ok (.iconst 0, 1) := by decide +kernel
theorem d_X11_strangers_3 : decode (yB m_X11_strangers) 3 = .ok (.istore_n 2, 1) := by decide +kernel
theorem d_X11_strangers_4 : decode (yB m_X11_strangers) 4 = .ok (.iload_n 2, 1) := by decide +kernel
theorem d_X11_strangers_5 : decode (yB m_X11_strangers) 5 = .ok (.aload_n 0, 1) := by decide +kernel
theorem d_X11_strangers_6 : decode (yB m_X11_strangers) 6 = .ok (.getfield 25, 3) := by decide +kernel
theorem d_X11_strangers_9 : decode (yB m_X11_strangers) 9 = .ok (.getfield 163, 3) := by decide +kernel
theorem d_X11_strangers_12 : decode (yB m_X11_strangers) 12 = .ok (.if_icmp .ge 26, 3) := by decide +kernel
theorem d_X11_strangers_15 : decode (yB m_X11_strangers) 15 = .ok (.aload_n 0, 1) := by decide +kernel
theorem d_X11_strangers_16 : decode (yB m_X11_strangers) 16 = .ok (.getfield 25, 3) := by decide +kernel
theorem d_X11_strangers_19 : decode (yB m_X11_strangers) 19 = .ok (.iload_n 2, 1) := by decide +kernel
theorem d_X11_strangers_20 : decode (yB m_X11_strangers) 20 = .ok (.invokevirtual 311, 3) := by decide +kernel
theorem d_X11_strangers_23 : decode (yB m_X11_strangers) 23 = .ok (.ifCond .eq 9, 3) := by decide +kernel
theorem d_X11_strangers_26 : decode (yB m_X11_strangers) 26 = .ok (.iload_n 1, 1) := by decide +kernel
theorem d_X11_strangers_27 : decode (yB m_X11_strangers) 27 = .ok (.iconst 1, 1) := by decide +kernel
theorem d_X11_strangers_28 : decode (yB m_X11_strangers) 28 = .ok (.iload_n 2, 1) := by decide +kernel
theorem d_X11_strangers_29 : decode (yB m_X11_strangers) 29 = .ok (.ishl, 1) := by decide +kernel
theorem d_X11_strangers_30 : decode (yB m_X11_strangers) 30 = .ok (.ior, 1) := by decide +kernel
theorem d_X11_strangers_31 : decode (yB m_X11_strangers) 31 = .ok (.istore_n 1, 1) := by decide +kernel
theorem d_X11_strangers_32 : decode (yB m_X11_strangers) 32 = .ok (.iinc 2 1, 3) := by decide +kernel
theorem d_X11_strangers_35 : decode (yB m_X11_strangers) 35 = .ok (.goto (-31), 3) := by decide +kernel
theorem d_X11_strangers_38 : decode (yB m_X11_strangers) 38 = .ok (.iload_n 1, 1) := by decide +kernel
theorem d_X11_strangers_39 : decode (yB m_X11_strangers) 39 = .ok (.ireturn, 1) := by decide +kernel
def fn_X11_strangers_4 (D : zD) : Nat → Int32 → Int32 → Option Int32
  | 0, _, _ => none
  | n + 1, v1, v2 => (if (gI D 3 2) ≤ v2 then ((some v1)) else ((fn_X0_isStranger 3 v2 D).bind fun x2 => (if x2 = 0 then (((fn_X11_strangers_4 D n) v1 (v2 + (1 : Int32)))) else (zlet (v1 ||| ((1 : Int32) <<< (v2 &&& 31))) fun x4 => ((fn_X11_strangers_4 D n) x4 (v2 + (1 : Int32)))))))
def fn_X11_strangers (D : zD) : Option Int32 := (fn_X11_strangers_4 D zFU (0 : Int32) (0 : Int32))
theorem s_X11_strangers_4 {X : zX} {Sh : zSh} {d : Nat} (hst : (zl X).stackTraces = false) (h0 : zSh0 Sh) (hd : 4 ≤ d) (D : zD) : ∀ (n : Nat) (v1 : Int32) (v2 : Int32) , Rn X m_X11_strangers (d + 1) 4 [(0, .ref 0), (1, .int v1), (2, .int v2)] [] (Sh, D) ((oP Sh D) (fn_X11_strangers_4 D n v1 v2)) := by
  intro n
  induction n with
  | zero => intro v1 v2; exact Rn_none rfl
  | succ n hk4 =>
    intro v1 v2
    rw [fn_X11_strangers_4]
    refine r_iload_n (pc := 4) 2 d_X11_strangers_4 rfl rfl ?_
    refine r_aload_n (pc := 5) 0 d_X11_strangers_5 rfl rfl ?_
    refine r_getR (pc := 6) g_X11_25 (K_0 h0) rfl (R_0_2 h0) d_X11_strangers_6 ?_
    refine q_gIn (pc := 9) g_X11_163 (K_3 h0) rfl d_X11_strangers_9 ?_
    refine r_icmp_ge (f := (oP Sh D)) (pc := 12) 38 d_X11_strangers_12 (by decide) (fun c1 => ?_) (fun c1 => ?_)
    · refine r_iload_n (pc := 38) 1 d_X11_strangers_38 rfl rfl ?_
      exact r_iret (pc := 39) rfl d_X11_strangers_39
    · refine r_aload_n (pc := 15) 0 d_X11_strangers_15 rfl rfl ?_
      refine r_getR (pc := 16) g_X11_25 (K_0 h0) rfl (R_0_2 h0) d_X11_strangers_16 ?_
      refine r_iload_n (pc := 19) 2 d_X11_strangers_19 rfl rfl ?_
      refine q_cP (f := (oP Sh D)) (av := [.ref 3, .int v2]) (st := []) (z_runV ck_X0_isStranger rfl ml_X11_311 ci_X0_isStranger cv_X0_isStranger (K_3 h0) (ci := 0) rfl rfl (Nat.le_of_ble_eq_true rfl) d_X11_strangers_20) (s_X0_isStranger hst h0 (by omega) (I_3)) kp_P (fun x2 _ => ?_)
      refine r_if_eq (f := (oP Sh D)) (pc := 23) 32 d_X11_strangers_23 (by decide) (fun c3 => ?_) (fun c3 => ?_)
      · refine r_iinc (pc := 32) ((v2 + (1 : Int32))) 2 (ls' := [(2, .int (v2 + (1 : Int32))), (0, .ref 0), (1, .int v1)]) d_X11_strangers_32 rfl rfl (Nat.le_of_ble_eq_true rfl) rfl ?_
        refine r_goto (pc := 35) 4 d_X11_strangers_35 (by decide) ?_
        refine r_pick [1, 2, 0] (ls' := [(0, .ref 0), (1, .int v1), (2, .int (v2 + (1 : Int32)))]) rfl ?_
        exact hk4 v1 (v2 + (1 : Int32)) 
      · refine r_iload_n (pc := 26) 1 d_X11_strangers_26 rfl rfl ?_
        refine r_iconst (pc := 27) (1 : Int32) d_X11_strangers_27 rfl ?_
        refine r_iload_n (pc := 28) 2 d_X11_strangers_28 rfl rfl ?_
        refine r_ishl (pc := 29) d_X11_strangers_29 ?_
        refine r_ior (pc := 30) d_X11_strangers_30 ?_
        refine r_leti (f := (oP Sh D)) (fun x4 => ?_)
        refine r_istore_n (pc := 31) (ls' := [(1, .int x4), (0, .ref 0), (2, .int v2)]) d_X11_strangers_31 rfl (Nat.le_of_ble_eq_true rfl) rfl ?_
        refine r_iinc (pc := 32) ((v2 + (1 : Int32))) 2 (ls' := [(2, .int (v2 + (1 : Int32))), (1, .int x4), (0, .ref 0)]) d_X11_strangers_32 rfl rfl (Nat.le_of_ble_eq_true rfl) rfl ?_
        refine r_goto (pc := 35) 4 d_X11_strangers_35 (by decide) ?_
        refine r_pick [2, 1, 0] (ls' := [(0, .ref 0), (1, .int x4), (2, .int (v2 + (1 : Int32)))]) rfl ?_
        exact hk4 x4 (v2 + (1 : Int32)) 
theorem s_X11_strangers {X : zX} {Sh : zSh} {d : Nat} (hst : (zl X).stackTraces = false) (h0 : zSh0 Sh) (hd : 5 ≤ d)  {D : zD} : Sd X m_X11_strangers d [.ref 0] (Sh, D) ((oP Sh D) (fn_X11_strangers D)) := by
  obtain ⟨d, rfl⟩ : ∃ e, d = e + 1 := ⟨d - 1, by omega⟩
  replace hd : 4 ≤ d := by omega
  refine z_body ck_X11_strangers rfl (Nat.le_of_ble_eq_true rfl) rfl hst ?_
  rw [fn_X11_strangers]
  show Rn X m_X11_strangers (d + 1) 0 [(0, .ref 0)] [] (Sh, D) _
  refine r_iconst (pc := 0) (0 : Int32) d_X11_strangers_0 rfl ?_
  refine r_istore_n (pc := 1) (ls' := [(1, .int (0 : Int32)), (0, .ref 0)]) d_X11_strangers_1 rfl (Nat.le_of_ble_eq_true rfl) rfl ?_
  refine r_iconst (pc := 2) (0 : Int32) d_X11_strangers_2 rfl ?_
  refine r_istore_n (pc := 3) (ls' := [(2, .int (0 : Int32)), (1, .int (0 : Int32)), (0, .ref 0)]) d_X11_strangers_3 rfl (Nat.le_of_ble_eq_true rfl) rfl ?_
  refine r_pick [2, 1, 0] (ls' := [(0, .ref 0), (1, .int (0 : Int32)), (2, .int (0 : Int32))]) rfl ?_
  exact s_X11_strangers_4 hst h0 hd D zFU  (0 : Int32) (0 : Int32)
/-! CoveredSigns.changed -/
theorem d_X11_changed_0 : decode (yB m_X11_changed) 0 = .ok (.aload_n 0, 1) := by decide +kernel
theorem d_X11_changed_1 : decode (yB m_X11_changed) 1 = .ok (.iload_n 1, 1) := by decide +kernel
theorem d_X11_changed_2 : decode (yB m_X11_changed) 2 = .ok (.iconst 2, 1) := by decide +kernel
theorem d_X11_changed_3 : decode (yB m_X11_changed) 3 = .ok (.invokevirtual 245, 3) := by decide +kernel
theorem d_X11_changed_6 : decode (yB m_X11_changed) 6 = .ok (.aload_n 0, 1) := by decide +kernel
theorem d_X11_changed_7 : decode (yB m_X11_changed) 7 = .ok (.iconst 2, 1) := by decide +kernel
theorem d_X11_changed_8 : decode (yB m_X11_changed) 8 = .ok (.invokevirtual 249, 3) := by decide +kernel
theorem d_X11_changed_11 : decode (yB m_X11_changed) 11 = .ok (.ldc 115, 2) := by decide +kernel
theorem d_X11_changed_13 : decode (yB m_X11_changed) 13 = .ok (.if_icmp .ne 54, 3) := by decide +kernel
theorem d_X11_changed_16 : decode (yB m_X11_changed) 16 = .ok (.aload_n 0, 1) := by decide +kernel
theorem d_X11_changed_17 : decode (yB m_X11_changed) 17 = .ok (.invokevirtual 239, 3) := by decide +kernel
theorem d_X11_changed_20 : decode (yB m_X11_changed) 20 = .ok (.aload_n 0, 1) := by decide +kernel
theorem d_X11_changed_21 : decode (yB m_X11_changed) 21 = .ok (.getfield 82, 3) := by decide +kernel
theorem d_X11_changed_24 : decode (yB m_X11_changed) 24 = .ok (.aload_n 0, 1) := by decide +kernel
theorem d_X11_changed_25 : decode (yB m_X11_changed) 25 = .ok (.getfield 73, 3) := by decide +kernel
theorem d_X11_changed_28 : decode (yB m_X11_changed) 28 = .ok (.invokevirtual 314, 3) := by decide +kernel
theorem d_X11_changed_31 : decode (yB m_X11_changed) 31 = .ok (.aload_n 0, 1) := by decide +kernel
theorem d_X11_changed_32 : decode (yB m_X11_changed) 32 = .ok (.iconst 2, 1) := by decide +kernel
theorem d_X11_changed_33 : decode (yB m_X11_changed) 33 = .ok (.aload_n 0, 1) := by decide +kernel
theorem d_X11_changed_34 : decode (yB m_X11_changed) 34 = .ok (.getfield 82, 3) := by decide +kernel
theorem d_X11_changed_37 : decode (yB m_X11_changed) 37 = .ok (.getfield 316, 3) := by decide +kernel
theorem d_X11_changed_40 : decode (yB m_X11_changed) 40 = .ok (.invokevirtual 256, 3) := by decide +kernel
theorem d_X11_changed_43 : decode (yB m_X11_changed) 43 = .ok (.aload_n 0, 1) := by decide +kernel
theorem d_X11_changed_44 : decode (yB m_X11_changed) 44 = .ok (.iconst 3, 1) := by decide +kernel
theorem d_X11_changed_45 : decode (yB m_X11_changed) 45 = .ok (.aload_n 0, 1) := by decide +kernel
theorem d_X11_changed_46 : decode (yB m_X11_changed) 46 = .ok (.getfield 82, 3) := by decide +kernel
theorem d_X11_changed_49 : decode (yB m_X11_changed) 49 = .ok (.getfield 319, 3) := by decide +kernel
theorem d_X11_changed_52 : decode (yB m_X11_changed) 52 = .ok (.invokevirtual 256, 3) := by decide +kernel
theorem d_X11_changed_55 : decode (yB m_X11_changed) 55 = .ok (.aload_n 0, 1) := by decide +kernel
theorem d_X11_changed_56 : decode (yB m_X11_changed) 56 = .ok (.iconst 4, 1) := by decide +kernel
theorem d_X11_changed_57 : decode (yB m_X11_changed) 57 = .ok (.aload_n 0, 1) := by decide +kernel
theorem d_X11_changed_58 : decode (yB m_X11_changed) 58 = .ok (.getfield 82, 3) := by decide +kernel
theorem d_X11_changed_61 : decode (yB m_X11_changed) 61 = .ok (.getfield 322, 3) := by decide +kernel
theorem d_X11_changed_64 : decode (yB m_X11_changed) 64 = .ok (.invokevirtual 256, 3) := by decide +kernel
theorem d_X11_changed_67 : decode (yB m_X11_changed) 67 = .ok (.aload_n 0, 1) := by decide +kernel
theorem d_X11_changed_68 : decode (yB m_X11_changed) 68 = .ok (.iconst 2, 1) := by decide +kernel
theorem d_X11_changed_69 : decode (yB m_X11_changed) 69 = .ok (.iload_n 1, 1) := by decide +kernel
theorem d_X11_changed_70 : decode (yB m_X11_changed) 70 = .ok (.iadd, 1) := by decide +kernel
theorem d_X11_changed_71 : decode (yB m_X11_changed) 71 = .ok (.invokevirtual 249, 3) := by decide +kernel
theorem d_X11_changed_74 : decode (yB m_X11_changed) 74 = .ok (.ireturn, 1) := by decide +kernel
def fn_X11_changed_67 (v1 : Int32) (D : zD) : Option ((Nat ⊕ Int32) × zD) := (fn_X11_keptAt ((2 : Int32) + v1) D).bind fun x5 => (some (.inr x5, D))
def fn_X11_changed (v1 : Int32) (D : zD) : Option ((Nat ⊕ Int32) × zD) := (fn_X11_needWhat v1 (2 : Int32)).bind fun e1 => if e1 = 0 then ((fn_X11_keptAt (2 : Int32) D).bind fun x3 => (if x3 = (-1000000 : Int32) then ((fn_X11_weave D).bind fun D6 => (fn_X6_find 81 D6).bind fun D7 => (fn_X11_keep (2 : Int32) (gI D7 85 1) D7).bind fun D8 => (fn_X11_keep (3 : Int32) (gI D8 85 2) D8).bind fun D9 => (fn_X11_keep (4 : Int32) (gI D9 85 3) D9).bind fun D10 => (fn_X11_changed_67 v1 D10)) else ((fn_X11_changed_67 v1 D)))) else some (.inl e1, D)
theorem s_X11_changed_67 {X : zX} {Sh : zSh} {d : Nat} (hst : (zl X).stackTraces = false) (h0 : zSh0 Sh) (hd : 8 ≤ d) {v1 : Int32}  (D : zD)  : Rn X m_X11_changed (d + 1) 67 [(0, .ref 0), (1, .int v1)] [] (Sh, D) ((oXI Sh) (fn_X11_changed_67 v1 D)) := by
  rw [fn_X11_changed_67]
  refine r_aload_n (pc := 67) 0 d_X11_changed_67 rfl rfl ?_
  refine r_iconst (pc := 68) (2 : Int32) d_X11_changed_68 rfl ?_
  refine r_iload_n (pc := 69) 1 d_X11_changed_69 rfl rfl ?_
  refine r_iadd (pc := 70) d_X11_changed_70 ?_
  refine q_cP (f := (oXI Sh)) (av := [.ref 0, .int ((2 : Int32) + v1)]) (st := []) (z_runV ck_X11_keptAt rfl ml_X11_249 ci_X11_keptAt cv_X11_keptAt (K_0 h0) (ci := 11) rfl rfl (Nat.le_of_ble_eq_true rfl) d_X11_changed_71) (s_X11_keptAt hst h0 (by omega)) kp_XI (fun x5 _ => ?_)
  exact r_iret (pc := 74) rfl d_X11_changed_74
theorem s_X11_changed {X : zX} {Sh : zSh} {d : Nat} (hst : (zl X).stackTraces = false) (h0 : zSh0 Sh) (hd : 9 ≤ d) {v1 : Int32} {D : zD} : Sd X m_X11_changed d [.ref 0, .int v1] (Sh, D) ((oXI Sh) (fn_X11_changed v1 D)) := by
  obtain ⟨d, rfl⟩ : ∃ e, d = e + 1 := ⟨d - 1, by omega⟩
  replace hd : 8 ≤ d := by omega
  refine z_body ck_X11_changed rfl (Nat.le_of_ble_eq_true rfl) rfl hst ?_
  rw [fn_X11_changed]
  show Rn X m_X11_changed (d + 1) 0 [(0, .ref 0), (1, .int v1)] [] (Sh, D) _
  refine r_aload_n (pc := 0) 0 d_X11_changed_0 rfl rfl ?_
  refine r_iload_n (pc := 1) 1 d_X11_changed_1 rfl rfl ?_
  refine r_iconst (pc := 2) (2 : Int32) d_X11_changed_2 rfl ?_
  refine q_cN (f := (oXI Sh)) (t := fun e1 => some (.inl e1, D)) (av := [.ref 0, .int v1, .int (2 : Int32)]) (st := []) (z_runV ck_X11_needWhat rfl ml_X11_245 ci_X11_needWhat cv_X11_needWhat (K_0 h0) (ci := 11) rfl rfl (Nat.le_of_ble_eq_true rfl) d_X11_changed_3) (s_X11_needWhat hst h0 (by omega)) rfl kp_XI (fun _ _ => rfl) ?_
  refine r_aload_n (pc := 6) 0 d_X11_changed_6 rfl rfl ?_
  refine r_iconst (pc := 7) (2 : Int32) d_X11_changed_7 rfl ?_
  refine q_cP (f := (oXI Sh)) (av := [.ref 0, .int (2 : Int32)]) (st := []) (z_runV ck_X11_keptAt rfl ml_X11_249 ci_X11_keptAt cv_X11_keptAt (K_0 h0) (ci := 11) rfl rfl (Nat.le_of_ble_eq_true rfl) d_X11_changed_8) (s_X11_keptAt hst h0 (by omega)) kp_XI (fun x3 _ => ?_)
  refine r_ldc (pc := 11) d_X11_changed_11 cc_X11_115 ?_
  refine r_icmp_ne (f := (oXI Sh)) (pc := 13) 67 d_X11_changed_13 (by decide) (fun c4 => ?_) (fun c4 => ?_)
  · refine r_pick [0, 1] (ls' := [(0, .ref 0), (1, .int v1)]) rfl ?_
    exact s_X11_changed_67 hst h0 hd D
  · refine r_aload_n (pc := 16) 0 d_X11_changed_16 rfl rfl ?_
    refine q_cV (f := (oXI Sh)) (av := [.ref 0]) (st := []) (z_runV ck_X11_weave rfl ml_X11_239 ci_X11_weave cv_X11_weave (K_0 h0) (ci := 11) rfl rfl (Nat.le_of_ble_eq_true rfl) d_X11_changed_17) (s_X11_weave hst h0 (by omega)) kp_XI (fun D6 _ => ?_)
    refine r_aload_n (pc := 20) 0 d_X11_changed_20 rfl rfl ?_
    refine r_getR (pc := 21) g_X11_82 (K_0 h0) rfl (R_0_11 h0) d_X11_changed_21 ?_
    refine r_aload_n (pc := 24) 0 d_X11_changed_24 rfl rfl ?_
    refine r_getR (pc := 25) g_X11_73 (K_0 h0) rfl (R_0_10 h0) d_X11_changed_25 ?_
    refine q_cV (f := (oXI Sh)) (av := [.ref 85, .ref 81]) (st := []) (z_runV ck_X6_find rfl ml_X11_314 ci_X6_find cv_X6_find (K_85 h0) (ci := 6) rfl rfl (Nat.le_of_ble_eq_true rfl) d_X11_changed_28) (s_X6_find hst h0 (by omega) (I_81)) kp_XI (fun D7 _ => ?_)
    refine r_aload_n (pc := 31) 0 d_X11_changed_31 rfl rfl ?_
    refine r_iconst (pc := 32) (2 : Int32) d_X11_changed_32 rfl ?_
    refine r_aload_n (pc := 33) 0 d_X11_changed_33 rfl rfl ?_
    refine r_getR (pc := 34) g_X11_82 (K_0 h0) rfl (R_0_11 h0) d_X11_changed_34 ?_
    refine q_gIn (pc := 37) g_X11_316 (K_85 h0) rfl d_X11_changed_37 ?_
    refine q_cV (f := (oXI Sh)) (av := [.ref 0, .int (2 : Int32), .int (gI D7 85 1)]) (st := []) (z_runV ck_X11_keep rfl ml_X11_256 ci_X11_keep cv_X11_keep (K_0 h0) (ci := 11) rfl rfl (Nat.le_of_ble_eq_true rfl) d_X11_changed_40) (s_X11_keep hst h0 (by omega)) kp_XI (fun D8 _ => ?_)
    refine r_aload_n (pc := 43) 0 d_X11_changed_43 rfl rfl ?_
    refine r_iconst (pc := 44) (3 : Int32) d_X11_changed_44 rfl ?_
    refine r_aload_n (pc := 45) 0 d_X11_changed_45 rfl rfl ?_
    refine r_getR (pc := 46) g_X11_82 (K_0 h0) rfl (R_0_11 h0) d_X11_changed_46 ?_
    refine q_gIn (pc := 49) g_X11_319 (K_85 h0) rfl d_X11_changed_49 ?_
    refine q_cV (f := (oXI Sh)) (av := [.ref 0, .int (3 : Int32), .int (gI D8 85 2)]) (st := []) (z_runV ck_X11_keep rfl ml_X11_256 ci_X11_keep cv_X11_keep (K_0 h0) (ci := 11) rfl rfl (Nat.le_of_ble_eq_true rfl) d_X11_changed_52) (s_X11_keep hst h0 (by omega)) kp_XI (fun D9 _ => ?_)
    refine r_aload_n (pc := 55) 0 d_X11_changed_55 rfl rfl ?_
    refine r_iconst (pc := 56) (4 : Int32) d_X11_changed_56 rfl ?_
    refine r_aload_n (pc := 57) 0 d_X11_changed_57 rfl rfl ?_
    refine r_getR (pc := 58) g_X11_82 (K_0 h0) rfl (R_0_11 h0) d_X11_changed_58 ?_
    refine q_gIn (pc := 61) g_X11_322 (K_85 h0) rfl d_X11_changed_61 ?_
    refine q_cV (f := (oXI Sh)) (av := [.ref 0, .int (4 : Int32), .int (gI D9 85 3)]) (st := []) (z_runV ck_X11_keep rfl ml_X11_256 ci_X11_keep cv_X11_keep (K_0 h0) (ci := 11) rfl rfl (Nat.le_of_ble_eq_true rfl) d_X11_changed_64) (s_X11_keep hst h0 (by omega)) kp_XI (fun D10 _ => ?_)
    refine r_pick [0, 1] (ls' := [(0, .ref 0), (1, .int v1)]) rfl ?_
    exact s_X11_changed_67 hst h0 hd D10
/-! CoveredSigns.bound -/
theorem d_X11_bound_0 : decode (yB m_X11_bound) 0 = .ok (.aload_n 0, 1) := by decide +kernel
theorem d_X11_bound_1 : decode (yB m_X11_bound) 1 = .ok (.bipush 7, 2) := by decide +kernel
theorem d_X11_bound_3 : decode (yB m_X11_bound) 3 = .ok (.invokevirtual 249, 3) := by decide +kernel
theorem d_X11_bound_6 : decode (yB m_X11_bound) 6 = .ok (.ldc 115, 2) := by decide +kernel
theorem d_X11_bound_8 : decode (yB m_X11_bound) 8 = .ok (.if_icmp .ne 20, 3) := by decide +kernel
theorem d_X11_bound_11 : decode (yB m_X11_bound) 11 = .ok (.aload_n 0, 1) := by decide +kernel
theorem d_X11_bound_12 : decode (yB m_X11_bound) 12 = .ok (.invokevirtual 239, 3) := by decide +kernel
theorem d_X11_bound_15 : decode (yB m_X11_bound) 15 = .ok (.aload_n 0, 1) := by decide +kernel
theorem d_X11_bound_16 : decode (yB m_X11_bound) 16 = .ok (.bipush 7, 2) := by decide +kernel
theorem d_X11_bound_18 : decode (yB m_X11_bound) 18 = .ok (.aload_n 0, 1) := by decide +kernel
theorem d_X11_bound_19 : decode (yB m_X11_bound) 19 = .ok (.getfield 73, 3) := by decide +kernel
theorem d_X11_bound_22 : decode (yB m_X11_bound) 22 = .ok (.invokevirtual 325, 3) := by decide +kernel
theorem d_X11_bound_25 : decode (yB m_X11_bound) 25 = .ok (.invokevirtual 256, 3) := by decide +kernel
theorem d_X11_bound_28 : decode (yB m_X11_bound) 28 = .ok (.aload_n 0, 1) := by decide +kernel
theorem d_X11_bound_29 : decode (yB m_X11_bound) 29 = .ok (.bipush 7, 2) := by decide +kernel
theorem d_X11_bound_31 : decode (yB m_X11_bound) 31 = .ok (.invokevirtual 249, 3) := by decide +kernel
theorem d_X11_bound_34 : decode (yB m_X11_bound) 34 = .ok (.ireturn, 1) := by decide +kernel
def fn_X11_bound (D : zD) : Option (Int32 × zD) := (fn_X11_keptAt (7 : Int32) D).bind fun x1 => (if x1 = (-1000000 : Int32) then ((fn_X11_weave D).bind fun D4 => (fn_X10_mostApartPairs 81 D4).bind fun x5 => (fn_X11_keep (7 : Int32) x5 D4).bind fun D6 => (fn_X11_keptAt (7 : Int32) D6).bind fun x7 => (some (x7, D6))) else ((fn_X11_keptAt (7 : Int32) D).bind fun x3 => (some (x3, D))))
theorem s_X11_bound {X : zX} {Sh : zSh} {d : Nat} (hst : (zl X).stackTraces = false) (h0 : zSh0 Sh) (hd : 103 ≤ d)  {D : zD} : Sd X m_X11_bound d [.ref 0] (Sh, D) ((oI Sh) (fn_X11_bound D)) := by
  obtain ⟨d, rfl⟩ : ∃ e, d = e + 1 := ⟨d - 1, by omega⟩
  replace hd : 102 ≤ d := by omega
  refine z_body ck_X11_bound rfl (Nat.le_of_ble_eq_true rfl) rfl hst ?_
  rw [fn_X11_bound]
  show Rn X m_X11_bound (d + 1) 0 [(0, .ref 0)] [] (Sh, D) _
  refine r_aload_n (pc := 0) 0 d_X11_bound_0 rfl rfl ?_
  refine r_bipush (pc := 1) (7 : Int32) d_X11_bound_1 rfl ?_
  refine q_cP (f := (oI Sh)) (av := [.ref 0, .int (7 : Int32)]) (st := []) (z_runV ck_X11_keptAt rfl ml_X11_249 ci_X11_keptAt cv_X11_keptAt (K_0 h0) (ci := 11) rfl rfl (Nat.le_of_ble_eq_true rfl) d_X11_bound_3) (s_X11_keptAt hst h0 (by omega)) kp_I (fun x1 _ => ?_)
  refine r_ldc (pc := 6) d_X11_bound_6 cc_X11_115 ?_
  refine r_icmp_ne (f := (oI Sh)) (pc := 8) 28 d_X11_bound_8 (by decide) (fun c2 => ?_) (fun c2 => ?_)
  · refine r_aload_n (pc := 28) 0 d_X11_bound_28 rfl rfl ?_
    refine r_bipush (pc := 29) (7 : Int32) d_X11_bound_29 rfl ?_
    refine q_cP (f := (oI Sh)) (av := [.ref 0, .int (7 : Int32)]) (st := []) (z_runV ck_X11_keptAt rfl ml_X11_249 ci_X11_keptAt cv_X11_keptAt (K_0 h0) (ci := 11) rfl rfl (Nat.le_of_ble_eq_true rfl) d_X11_bound_31) (s_X11_keptAt hst h0 (by omega)) kp_I (fun x3 _ => ?_)
    exact r_iret (pc := 34) rfl d_X11_bound_34
  · refine r_aload_n (pc := 11) 0 d_X11_bound_11 rfl rfl ?_
    refine q_cV (f := (oI Sh)) (av := [.ref 0]) (st := []) (z_runV ck_X11_weave rfl ml_X11_239 ci_X11_weave cv_X11_weave (K_0 h0) (ci := 11) rfl rfl (Nat.le_of_ble_eq_true rfl) d_X11_bound_12) (s_X11_weave hst h0 (by omega)) kp_I (fun D4 _ => ?_)
    refine r_aload_n (pc := 15) 0 d_X11_bound_15 rfl rfl ?_
    refine r_bipush (pc := 16) (7 : Int32) d_X11_bound_16 rfl ?_
    refine r_aload_n (pc := 18) 0 d_X11_bound_18 rfl rfl ?_
    refine r_getR (pc := 19) g_X11_73 (K_0 h0) rfl (R_0_10 h0) d_X11_bound_19 ?_
    refine q_cP (f := (oI Sh)) (av := [.ref 81]) (st := [.int (7 : Int32), .ref 0]) (z_runV ck_X10_mostApartPairs rfl ml_X11_325 ci_X10_mostApartPairs cv_X10_mostApartPairs (K_81 h0) (ci := 10) rfl rfl (Nat.le_of_ble_eq_true rfl) d_X11_bound_22) (s_X10_mostApartPairs hst h0 (by omega) (I_81)) kp_I (fun x5 _ => ?_)
    refine q_cV (f := (oI Sh)) (av := [.ref 0, .int (7 : Int32), .int x5]) (st := []) (z_runV ck_X11_keep rfl ml_X11_256 ci_X11_keep cv_X11_keep (K_0 h0) (ci := 11) rfl rfl (Nat.le_of_ble_eq_true rfl) d_X11_bound_25) (s_X11_keep hst h0 (by omega)) kp_I (fun D6 _ => ?_)
    refine r_aload_n (pc := 28) 0 d_X11_bound_28 rfl rfl ?_
    refine r_bipush (pc := 29) (7 : Int32) d_X11_bound_29 rfl ?_
    refine q_cP (f := (oI Sh)) (av := [.ref 0, .int (7 : Int32)]) (st := []) (z_runV ck_X11_keptAt rfl ml_X11_249 ci_X11_keptAt cv_X11_keptAt (K_0 h0) (ci := 11) rfl rfl (Nat.le_of_ble_eq_true rfl) d_X11_bound_31) (s_X11_keptAt hst h0 (by omega)) kp_I (fun x7 _ => ?_)
    exact r_iret (pc := 34) rfl d_X11_bound_34
/-! CoveredSigns.steps -/
theorem d_X11_steps_0 : decode (yB m_X11_steps) 0 = .ok (.aload_n 0, 1) := by decide +kernel
theorem d_X11_steps_1 : decode (yB m_X11_steps) 1 = .ok (.iload_n 1, 1) := by decide +kernel
theorem d_X11_steps_2 : decode (yB m_X11_steps) 2 = .ok (.iconst 1, 1) := by decide +kernel
theorem d_X11_steps_3 : decode (yB m_X11_steps) 3 = .ok (.invokevirtual 245, 3) := by decide +kernel
theorem d_X11_steps_6 : decode (yB m_X11_steps) 6 = .ok (.aload_n 0, 1) := by decide +kernel
theorem d_X11_steps_7 : decode (yB m_X11_steps) 7 = .ok (.iconst 5, 1) := by decide +kernel
theorem d_X11_steps_8 : decode (yB m_X11_steps) 8 = .ok (.invokevirtual 249, 3) := by decide +kernel
theorem d_X11_steps_11 : decode (yB m_X11_steps) 11 = .ok (.ldc 115, 2) := by decide +kernel
theorem d_X11_steps_13 : decode (yB m_X11_steps) 13 = .ok (.if_icmp .ne 36, 3) := by decide +kernel
theorem d_X11_steps_16 : decode (yB m_X11_steps) 16 = .ok (.aload_n 0, 1) := by decide +kernel
theorem d_X11_steps_17 : decode (yB m_X11_steps) 17 = .ok (.invokevirtual 239, 3) := by decide +kernel
theorem d_X11_steps_20 : decode (yB m_X11_steps) 20 = .ok (.aload_n 0, 1) := by decide +kernel
theorem d_X11_steps_21 : decode (yB m_X11_steps) 21 = .ok (.iconst 5, 1) := by decide +kernel
theorem d_X11_steps_22 : decode (yB m_X11_steps) 22 = .ok (.aload_n 0, 1) := by decide +kernel
theorem d_X11_steps_23 : decode (yB m_X11_steps) 23 = .ok (.getfield 82, 3) := by decide +kernel
theorem d_X11_steps_26 : decode (yB m_X11_steps) 26 = .ok (.aload_n 0, 1) := by decide +kernel
theorem d_X11_steps_27 : decode (yB m_X11_steps) 27 = .ok (.getfield 73, 3) := by decide +kernel
theorem d_X11_steps_30 : decode (yB m_X11_steps) 30 = .ok (.invokevirtual 328, 3) := by decide +kernel
theorem d_X11_steps_33 : decode (yB m_X11_steps) 33 = .ok (.invokevirtual 256, 3) := by decide +kernel
theorem d_X11_steps_36 : decode (yB m_X11_steps) 36 = .ok (.aload_n 0, 1) := by decide +kernel
theorem d_X11_steps_37 : decode (yB m_X11_steps) 37 = .ok (.bipush 6, 2) := by decide +kernel
theorem d_X11_steps_39 : decode (yB m_X11_steps) 39 = .ok (.aload_n 0, 1) := by decide +kernel
theorem d_X11_steps_40 : decode (yB m_X11_steps) 40 = .ok (.getfield 82, 3) := by decide +kernel
theorem d_X11_steps_43 : decode (yB m_X11_steps) 43 = .ok (.invokevirtual 332, 3) := by decide +kernel
theorem d_X11_steps_46 : decode (yB m_X11_steps) 46 = .ok (.invokevirtual 256, 3) := by decide +kernel
theorem d_X11_steps_49 : decode (yB m_X11_steps) 49 = .ok (.aload_n 0, 1) := by decide +kernel
theorem d_X11_steps_50 : decode (yB m_X11_steps) 50 = .ok (.iconst 5, 1) := by decide +kernel
theorem d_X11_steps_51 : decode (yB m_X11_steps) 51 = .ok (.iload_n 1, 1) := by decide +kernel
theorem d_X11_steps_52 : decode (yB m_X11_steps) 52 = .ok (.iadd, 1) := by decide +kernel
theorem d_X11_steps_53 : decode (yB m_X11_steps) 53 = .ok (.invokevirtual 249, 3) := by decide +kernel
theorem d_X11_steps_56 : decode (yB m_X11_steps) 56 = .ok (.ireturn, 1) := by decide +kernel
def fn_X11_steps_49 (v1 : Int32) (D : zD) : Option ((Nat ⊕ Int32) × zD) := (fn_X11_keptAt ((5 : Int32) + v1) D).bind fun x5 => (some (.inr x5, D))
def fn_X11_steps (v1 : Int32) (D : zD) : Option ((Nat ⊕ Int32) × zD) := (fn_X11_needWhat v1 (1 : Int32)).bind fun e1 => if e1 = 0 then ((fn_X11_keptAt (5 : Int32) D).bind fun x3 => (if x3 = (-1000000 : Int32) then ((fn_X11_weave D).bind fun D6 => (fn_X6_walk 81 D6).bind fun q7 => (fn_X11_keep (5 : Int32) q7.1 q7.2).bind fun D8 => (fn_X6_pairsLeft D8).bind fun x9 => (fn_X11_keep (6 : Int32) x9 D8).bind fun D10 => (fn_X11_steps_49 v1 D10)) else ((fn_X11_steps_49 v1 D)))) else some (.inl e1, D)
theorem s_X11_steps_49 {X : zX} {Sh : zSh} {d : Nat} (hst : (zl X).stackTraces = false) (h0 : zSh0 Sh) (hd : 8 ≤ d) {v1 : Int32}  (D : zD)  : Rn X m_X11_steps (d + 1) 49 [(0, .ref 0), (1, .int v1)] [] (Sh, D) ((oXI Sh) (fn_X11_steps_49 v1 D)) := by
  rw [fn_X11_steps_49]
  refine r_aload_n (pc := 49) 0 d_X11_steps_49 rfl rfl ?_
  refine r_iconst (pc := 50) (5 : Int32) d_X11_steps_50 rfl ?_
  refine r_iload_n (pc := 51) 1 d_X11_steps_51 rfl rfl ?_
  refine r_iadd (pc := 52) d_X11_steps_52 ?_
  refine q_cP (f := (oXI Sh)) (av := [.ref 0, .int ((5 : Int32) + v1)]) (st := []) (z_runV ck_X11_keptAt rfl ml_X11_249 ci_X11_keptAt cv_X11_keptAt (K_0 h0) (ci := 11) rfl rfl (Nat.le_of_ble_eq_true rfl) d_X11_steps_53) (s_X11_keptAt hst h0 (by omega)) kp_XI (fun x5 _ => ?_)
  exact r_iret (pc := 56) rfl d_X11_steps_56
theorem s_X11_steps {X : zX} {Sh : zSh} {d : Nat} (hst : (zl X).stackTraces = false) (h0 : zSh0 Sh) (hd : 9 ≤ d) {v1 : Int32} {D : zD} : Sd X m_X11_steps d [.ref 0, .int v1] (Sh, D) ((oXI Sh) (fn_X11_steps v1 D)) := by
  obtain ⟨d, rfl⟩ : ∃ e, d = e + 1 := ⟨d - 1, by omega⟩
  replace hd : 8 ≤ d := by omega
  refine z_body ck_X11_steps rfl (Nat.le_of_ble_eq_true rfl) rfl hst ?_
  rw [fn_X11_steps]
  show Rn X m_X11_steps (d + 1) 0 [(0, .ref 0), (1, .int v1)] [] (Sh, D) _
  refine r_aload_n (pc := 0) 0 d_X11_steps_0 rfl rfl ?_
  refine r_iload_n (pc := 1) 1 d_X11_steps_1 rfl rfl ?_
  refine r_iconst (pc := 2) (1 : Int32) d_X11_steps_2 rfl ?_
  refine q_cN (f := (oXI Sh)) (t := fun e1 => some (.inl e1, D)) (av := [.ref 0, .int v1, .int (1 : Int32)]) (st := []) (z_runV ck_X11_needWhat rfl ml_X11_245 ci_X11_needWhat cv_X11_needWhat (K_0 h0) (ci := 11) rfl rfl (Nat.le_of_ble_eq_true rfl) d_X11_steps_3) (s_X11_needWhat hst h0 (by omega)) rfl kp_XI (fun _ _ => rfl) ?_
  refine r_aload_n (pc := 6) 0 d_X11_steps_6 rfl rfl ?_
  refine r_iconst (pc := 7) (5 : Int32) d_X11_steps_7 rfl ?_
  refine q_cP (f := (oXI Sh)) (av := [.ref 0, .int (5 : Int32)]) (st := []) (z_runV ck_X11_keptAt rfl ml_X11_249 ci_X11_keptAt cv_X11_keptAt (K_0 h0) (ci := 11) rfl rfl (Nat.le_of_ble_eq_true rfl) d_X11_steps_8) (s_X11_keptAt hst h0 (by omega)) kp_XI (fun x3 _ => ?_)
  refine r_ldc (pc := 11) d_X11_steps_11 cc_X11_115 ?_
  refine r_icmp_ne (f := (oXI Sh)) (pc := 13) 49 d_X11_steps_13 (by decide) (fun c4 => ?_) (fun c4 => ?_)
  · refine r_pick [0, 1] (ls' := [(0, .ref 0), (1, .int v1)]) rfl ?_
    exact s_X11_steps_49 hst h0 hd D
  · refine r_aload_n (pc := 16) 0 d_X11_steps_16 rfl rfl ?_
    refine q_cV (f := (oXI Sh)) (av := [.ref 0]) (st := []) (z_runV ck_X11_weave rfl ml_X11_239 ci_X11_weave cv_X11_weave (K_0 h0) (ci := 11) rfl rfl (Nat.le_of_ble_eq_true rfl) d_X11_steps_17) (s_X11_weave hst h0 (by omega)) kp_XI (fun D6 _ => ?_)
    refine r_aload_n (pc := 20) 0 d_X11_steps_20 rfl rfl ?_
    refine r_iconst (pc := 21) (5 : Int32) d_X11_steps_21 rfl ?_
    refine r_aload_n (pc := 22) 0 d_X11_steps_22 rfl rfl ?_
    refine r_getR (pc := 23) g_X11_82 (K_0 h0) rfl (R_0_11 h0) d_X11_steps_23 ?_
    refine r_aload_n (pc := 26) 0 d_X11_steps_26 rfl rfl ?_
    refine r_getR (pc := 27) g_X11_73 (K_0 h0) rfl (R_0_10 h0) d_X11_steps_27 ?_
    refine q_cI (f := (oXI Sh)) (av := [.ref 85, .ref 81]) (st := [.int (5 : Int32), .ref 0]) (z_runV ck_X6_walk rfl ml_X11_328 ci_X6_walk cv_X6_walk (K_85 h0) (ci := 6) rfl rfl (Nat.le_of_ble_eq_true rfl) d_X11_steps_30) (s_X6_walk hst h0 (by omega) (I_81)) kp_XI (fun q7 _ => ?_)
    refine q_cV (f := (oXI Sh)) (av := [.ref 0, .int (5 : Int32), .int q7.1]) (st := []) (z_runV ck_X11_keep rfl ml_X11_256 ci_X11_keep cv_X11_keep (K_0 h0) (ci := 11) rfl rfl (Nat.le_of_ble_eq_true rfl) d_X11_steps_33) (s_X11_keep hst h0 (by omega)) kp_XI (fun D8 _ => ?_)
    refine r_aload_n (pc := 36) 0 d_X11_steps_36 rfl rfl ?_
    refine r_bipush (pc := 37) (6 : Int32) d_X11_steps_37 rfl ?_
    refine r_aload_n (pc := 39) 0 d_X11_steps_39 rfl rfl ?_
    refine r_getR (pc := 40) g_X11_82 (K_0 h0) rfl (R_0_11 h0) d_X11_steps_40 ?_
    refine q_cP (f := (oXI Sh)) (av := [.ref 85]) (st := [.int (6 : Int32), .ref 0]) (z_runV ck_X6_pairsLeft rfl ml_X11_332 ci_X6_pairsLeft cv_X6_pairsLeft (K_85 h0) (ci := 6) rfl rfl (Nat.le_of_ble_eq_true rfl) d_X11_steps_43) (s_X6_pairsLeft hst h0 (by omega)) kp_XI (fun x9 _ => ?_)
    refine q_cV (f := (oXI Sh)) (av := [.ref 0, .int (6 : Int32), .int x9]) (st := []) (z_runV ck_X11_keep rfl ml_X11_256 ci_X11_keep cv_X11_keep (K_0 h0) (ci := 11) rfl rfl (Nat.le_of_ble_eq_true rfl) d_X11_steps_46) (s_X11_keep hst h0 (by omega)) kp_XI (fun D10 _ => ?_)
    refine r_pick [0, 1] (ls' := [(0, .ref 0), (1, .int v1)]) rfl ?_
    exact s_X11_steps_49 hst h0 hd D10
/-! CoveredSigns.most -/
theorem d_X11_most_0 : decode (yB m_X11_most) 0 = .ok (.aload_n 0, 1) := by decide +kernel
theorem d_X11_most_1 : decode (yB m_X11_most) 1 = .ok (.bipush 8, 2) := by decide +kernel
theorem d_X11_most_3 : decode (yB m_X11_most) 3 = .ok (.invokevirtual 249, 3) := by decide +kernel
theorem d_X11_most_6 : decode (yB m_X11_most) 6 = .ok (.ldc 115, 2) := by decide +kernel
theorem d_X11_most_8 : decode (yB m_X11_most) 8 = .ok (.if_icmp .ne 34, 3) := by decide +kernel
theorem d_X11_most_11 : decode (yB m_X11_most) 11 = .ok (.aload_n 0, 1) := by decide +kernel
theorem d_X11_most_12 : decode (yB m_X11_most) 12 = .ok (.bipush 8, 2) := by decide +kernel
theorem d_X11_most_14 : decode (yB m_X11_most) 14 = .ok (.aload_n 0, 1) := by decide +kernel
theorem d_X11_most_15 : decode (yB m_X11_most) 15 = .ok (.getfield 96, 3) := by decide +kernel
theorem d_X11_most_18 : decode (yB m_X11_most) 18 = .ok (.aload_n 0, 1) := by decide +kernel
theorem d_X11_most_19 : decode (yB m_X11_most) 19 = .ok (.getfield 41, 3) := by decide +kernel
theorem d_X11_most_22 : decode (yB m_X11_most) 22 = .ok (.aload_n 0, 1) := by decide +kernel
theorem d_X11_most_23 : decode (yB m_X11_most) 23 = .ok (.getfield 25, 3) := by decide +kernel
theorem d_X11_most_26 : decode (yB m_X11_most) 26 = .ok (.invokevirtual 335, 3) := by decide +kernel
theorem d_X11_most_29 : decode (yB m_X11_most) 29 = .ok (.aload_n 0, 1) := by decide +kernel
theorem d_X11_most_30 : decode (yB m_X11_most) 30 = .ok (.getfield 55, 3) := by decide +kernel
theorem d_X11_most_33 : decode (yB m_X11_most) 33 = .ok (.getfield 195, 3) := by decide +kernel
theorem d_X11_most_36 : decode (yB m_X11_most) 36 = .ok (.invokevirtual 337, 3) := by decide +kernel
theorem d_X11_most_39 : decode (yB m_X11_most) 39 = .ok (.invokevirtual 256, 3) := by decide +kernel
theorem d_X11_most_42 : decode (yB m_X11_most) 42 = .ok (.aload_n 0, 1) := by decide +kernel
theorem d_X11_most_43 : decode (yB m_X11_most) 43 = .ok (.bipush 8, 2) := by decide +kernel
theorem d_X11_most_45 : decode (yB m_X11_most) 45 = .ok (.invokevirtual 249, 3) := by decide +kernel
theorem d_X11_most_48 : decode (yB m_X11_most) 48 = .ok (.ireturn, 1) := by decide +kernel
def fn_X11_most (D : zD) : Option (Int32 × zD) := (fn_X11_keptAt (8 : Int32) D).bind fun x1 => (if x1 = (-1000000 : Int32) then ((fn_X0_cells 3 D).bind fun x4 => (fn_X2_largest 20 x4 (gI D 57 0) D).bind fun q5 => (fn_X11_keep (8 : Int32) q5.1 q5.2).bind fun D6 => (fn_X11_keptAt (8 : Int32) D6).bind fun x7 => (some (x7, D6))) else ((fn_X11_keptAt (8 : Int32) D).bind fun x3 => (some (x3, D))))
theorem s_X11_most {X : zX} {Sh : zSh} {d : Nat} (hst : (zl X).stackTraces = false) (h0 : zSh0 Sh) (hd : 104 ≤ d)  {D : zD} : Sd X m_X11_most d [.ref 0] (Sh, D) ((oI Sh) (fn_X11_most D)) := by
  obtain ⟨d, rfl⟩ : ∃ e, d = e + 1 := ⟨d - 1, by omega⟩
  replace hd : 103 ≤ d := by omega
  refine z_body ck_X11_most rfl (Nat.le_of_ble_eq_true rfl) rfl hst ?_
  rw [fn_X11_most]
  show Rn X m_X11_most (d + 1) 0 [(0, .ref 0)] [] (Sh, D) _
  refine r_aload_n (pc := 0) 0 d_X11_most_0 rfl rfl ?_
  refine r_bipush (pc := 1) (8 : Int32) d_X11_most_1 rfl ?_
  refine q_cP (f := (oI Sh)) (av := [.ref 0, .int (8 : Int32)]) (st := []) (z_runV ck_X11_keptAt rfl ml_X11_249 ci_X11_keptAt cv_X11_keptAt (K_0 h0) (ci := 11) rfl rfl (Nat.le_of_ble_eq_true rfl) d_X11_most_3) (s_X11_keptAt hst h0 (by omega)) kp_I (fun x1 _ => ?_)
  refine r_ldc (pc := 6) d_X11_most_6 cc_X11_115 ?_
  refine r_icmp_ne (f := (oI Sh)) (pc := 8) 42 d_X11_most_8 (by decide) (fun c2 => ?_) (fun c2 => ?_)
  · refine r_aload_n (pc := 42) 0 d_X11_most_42 rfl rfl ?_
    refine r_bipush (pc := 43) (8 : Int32) d_X11_most_43 rfl ?_
    refine q_cP (f := (oI Sh)) (av := [.ref 0, .int (8 : Int32)]) (st := []) (z_runV ck_X11_keptAt rfl ml_X11_249 ci_X11_keptAt cv_X11_keptAt (K_0 h0) (ci := 11) rfl rfl (Nat.le_of_ble_eq_true rfl) d_X11_most_45) (s_X11_keptAt hst h0 (by omega)) kp_I (fun x3 _ => ?_)
    exact r_iret (pc := 48) rfl d_X11_most_48
  · refine r_aload_n (pc := 11) 0 d_X11_most_11 rfl rfl ?_
    refine r_bipush (pc := 12) (8 : Int32) d_X11_most_12 rfl ?_
    refine r_aload_n (pc := 14) 0 d_X11_most_14 rfl rfl ?_
    refine r_getR (pc := 15) g_X11_96 (K_0 h0) rfl (R_0_13 h0) d_X11_most_15 ?_
    refine r_aload_n (pc := 18) 0 d_X11_most_18 rfl rfl ?_
    refine r_getR (pc := 19) g_X11_41 (K_0 h0) rfl (R_0_4 h0) d_X11_most_19 ?_
    refine r_aload_n (pc := 22) 0 d_X11_most_22 rfl rfl ?_
    refine r_getR (pc := 23) g_X11_25 (K_0 h0) rfl (R_0_2 h0) d_X11_most_23 ?_
    refine q_cP (f := (oI Sh)) (av := [.ref 3]) (st := [.ref 20, .ref 92, .int (8 : Int32), .ref 0]) (z_runV ck_X0_cells rfl ml_X11_335 ci_X0_cells cv_X0_cells (K_3 h0) (ci := 0) rfl rfl (Nat.le_of_ble_eq_true rfl) d_X11_most_26) (s_X0_cells hst h0 (by omega) (I_3)) kp_I (fun x4 _ => ?_)
    refine r_aload_n (pc := 29) 0 d_X11_most_29 rfl rfl ?_
    refine r_getR (pc := 30) g_X11_55 (K_0 h0) rfl (R_0_6 h0) d_X11_most_30 ?_
    refine q_gIn (pc := 33) g_X11_195 (K_57 h0) rfl d_X11_most_33 ?_
    refine q_cI (f := (oI Sh)) (av := [.ref 92, .ref 20, .int x4, .int (gI D 57 0)]) (st := [.int (8 : Int32), .ref 0]) (z_runV ck_X2_largest rfl ml_X11_337 ci_X2_largest cv_X2_largest (K_92 h0) (ci := 2) rfl rfl (Nat.le_of_ble_eq_true rfl) d_X11_most_36) (s_X2_largest hst h0 (by omega) (I_20)) kp_I (fun q5 _ => ?_)
    refine q_cV (f := (oI Sh)) (av := [.ref 0, .int (8 : Int32), .int q5.1]) (st := []) (z_runV ck_X11_keep rfl ml_X11_256 ci_X11_keep cv_X11_keep (K_0 h0) (ci := 11) rfl rfl (Nat.le_of_ble_eq_true rfl) d_X11_most_39) (s_X11_keep hst h0 (by omega)) kp_I (fun D6 _ => ?_)
    refine r_aload_n (pc := 42) 0 d_X11_most_42 rfl rfl ?_
    refine r_bipush (pc := 43) (8 : Int32) d_X11_most_43 rfl ?_
    refine q_cP (f := (oI Sh)) (av := [.ref 0, .int (8 : Int32)]) (st := []) (z_runV ck_X11_keptAt rfl ml_X11_249 ci_X11_keptAt cv_X11_keptAt (K_0 h0) (ci := 11) rfl rfl (Nat.le_of_ble_eq_true rfl) d_X11_most_45) (s_X11_keptAt hst h0 (by omega)) kp_I (fun x7 _ => ?_)
    exact r_iret (pc := 48) rfl d_X11_most_48
/-! CoveredSigns.taken -/
theorem d_X11_taken_0 : decode (yB m_X11_taken) 0 = .ok (.aload_n 0, 1) := by decide +kernel
theorem d_X11_taken_1 : decode (yB m_X11_taken) 1 = .ok (.bipush 9, 2) := by decide +kernel
theorem d_X11_taken_3 : decode (yB m_X11_taken) 3 = .ok (.invokevirtual 249, 3) := by decide +kernel
theorem d_X11_taken_6 : decode (yB m_X11_taken) 6 = .ok (.ldc 115, 2) := by decide +kernel
theorem d_X11_taken_8 : decode (yB m_X11_taken) 8 = .ok (.if_icmp .ne 34, 3) := by decide +kernel
theorem d_X11_taken_11 : decode (yB m_X11_taken) 11 = .ok (.aload_n 0, 1) := by decide +kernel
theorem d_X11_taken_12 : decode (yB m_X11_taken) 12 = .ok (.bipush 9, 2) := by decide +kernel
theorem d_X11_taken_14 : decode (yB m_X11_taken) 14 = .ok (.aload_n 0, 1) := by decide +kernel
theorem d_X11_taken_15 : decode (yB m_X11_taken) 15 = .ok (.getfield 96, 3) := by decide +kernel
theorem d_X11_taken_18 : decode (yB m_X11_taken) 18 = .ok (.aload_n 0, 1) := by decide +kernel
theorem d_X11_taken_19 : decode (yB m_X11_taken) 19 = .ok (.getfield 41, 3) := by decide +kernel
theorem d_X11_taken_22 : decode (yB m_X11_taken) 22 = .ok (.aload_n 0, 1) := by decide +kernel
theorem d_X11_taken_23 : decode (yB m_X11_taken) 23 = .ok (.getfield 25, 3) := by decide +kernel
theorem d_X11_taken_26 : decode (yB m_X11_taken) 26 = .ok (.invokevirtual 335, 3) := by decide +kernel
theorem d_X11_taken_29 : decode (yB m_X11_taken) 29 = .ok (.aload_n 0, 1) := by decide +kernel
theorem d_X11_taken_30 : decode (yB m_X11_taken) 30 = .ok (.getfield 55, 3) := by decide +kernel
theorem d_X11_taken_33 : decode (yB m_X11_taken) 33 = .ok (.getfield 195, 3) := by decide +kernel
theorem d_X11_taken_36 : decode (yB m_X11_taken) 36 = .ok (.invokevirtual 341, 3) := by decide +kernel
theorem d_X11_taken_39 : decode (yB m_X11_taken) 39 = .ok (.invokevirtual 256, 3) := by decide +kernel
theorem d_X11_taken_42 : decode (yB m_X11_taken) 42 = .ok (.aload_n 0, 1) := by decide +kernel
theorem d_X11_taken_43 : decode (yB m_X11_taken) 43 = .ok (.bipush 9, 2) := by decide +kernel
theorem d_X11_taken_45 : decode (yB m_X11_taken) 45 = .ok (.invokevirtual 249, 3) := by decide +kernel
theorem d_X11_taken_48 : decode (yB m_X11_taken) 48 = .ok (.ireturn, 1) := by decide +kernel
def fn_X11_taken (D : zD) : Option (Int32 × zD) := (fn_X11_keptAt (9 : Int32) D).bind fun x1 => (if x1 = (-1000000 : Int32) then ((fn_X0_cells 3 D).bind fun x4 => (fn_X2_rowByRow 20 x4 (gI D 57 0) D).bind fun q5 => (fn_X11_keep (9 : Int32) q5.1 q5.2).bind fun D6 => (fn_X11_keptAt (9 : Int32) D6).bind fun x7 => (some (x7, D6))) else ((fn_X11_keptAt (9 : Int32) D).bind fun x3 => (some (x3, D))))
theorem s_X11_taken {X : zX} {Sh : zSh} {d : Nat} (hst : (zl X).stackTraces = false) (h0 : zSh0 Sh) (hd : 5 ≤ d)  {D : zD} : Sd X m_X11_taken d [.ref 0] (Sh, D) ((oI Sh) (fn_X11_taken D)) := by
  obtain ⟨d, rfl⟩ : ∃ e, d = e + 1 := ⟨d - 1, by omega⟩
  replace hd : 4 ≤ d := by omega
  refine z_body ck_X11_taken rfl (Nat.le_of_ble_eq_true rfl) rfl hst ?_
  rw [fn_X11_taken]
  show Rn X m_X11_taken (d + 1) 0 [(0, .ref 0)] [] (Sh, D) _
  refine r_aload_n (pc := 0) 0 d_X11_taken_0 rfl rfl ?_
  refine r_bipush (pc := 1) (9 : Int32) d_X11_taken_1 rfl ?_
  refine q_cP (f := (oI Sh)) (av := [.ref 0, .int (9 : Int32)]) (st := []) (z_runV ck_X11_keptAt rfl ml_X11_249 ci_X11_keptAt cv_X11_keptAt (K_0 h0) (ci := 11) rfl rfl (Nat.le_of_ble_eq_true rfl) d_X11_taken_3) (s_X11_keptAt hst h0 (by omega)) kp_I (fun x1 _ => ?_)
  refine r_ldc (pc := 6) d_X11_taken_6 cc_X11_115 ?_
  refine r_icmp_ne (f := (oI Sh)) (pc := 8) 42 d_X11_taken_8 (by decide) (fun c2 => ?_) (fun c2 => ?_)
  · refine r_aload_n (pc := 42) 0 d_X11_taken_42 rfl rfl ?_
    refine r_bipush (pc := 43) (9 : Int32) d_X11_taken_43 rfl ?_
    refine q_cP (f := (oI Sh)) (av := [.ref 0, .int (9 : Int32)]) (st := []) (z_runV ck_X11_keptAt rfl ml_X11_249 ci_X11_keptAt cv_X11_keptAt (K_0 h0) (ci := 11) rfl rfl (Nat.le_of_ble_eq_true rfl) d_X11_taken_45) (s_X11_keptAt hst h0 (by omega)) kp_I (fun x3 _ => ?_)
    exact r_iret (pc := 48) rfl d_X11_taken_48
  · refine r_aload_n (pc := 11) 0 d_X11_taken_11 rfl rfl ?_
    refine r_bipush (pc := 12) (9 : Int32) d_X11_taken_12 rfl ?_
    refine r_aload_n (pc := 14) 0 d_X11_taken_14 rfl rfl ?_
    refine r_getR (pc := 15) g_X11_96 (K_0 h0) rfl (R_0_13 h0) d_X11_taken_15 ?_
    refine r_aload_n (pc := 18) 0 d_X11_taken_18 rfl rfl ?_
    refine r_getR (pc := 19) g_X11_41 (K_0 h0) rfl (R_0_4 h0) d_X11_taken_19 ?_
    refine r_aload_n (pc := 22) 0 d_X11_taken_22 rfl rfl ?_
    refine r_getR (pc := 23) g_X11_25 (K_0 h0) rfl (R_0_2 h0) d_X11_taken_23 ?_
    refine q_cP (f := (oI Sh)) (av := [.ref 3]) (st := [.ref 20, .ref 92, .int (9 : Int32), .ref 0]) (z_runV ck_X0_cells rfl ml_X11_335 ci_X0_cells cv_X0_cells (K_3 h0) (ci := 0) rfl rfl (Nat.le_of_ble_eq_true rfl) d_X11_taken_26) (s_X0_cells hst h0 (by omega) (I_3)) kp_I (fun x4 _ => ?_)
    refine r_aload_n (pc := 29) 0 d_X11_taken_29 rfl rfl ?_
    refine r_getR (pc := 30) g_X11_55 (K_0 h0) rfl (R_0_6 h0) d_X11_taken_30 ?_
    refine q_gIn (pc := 33) g_X11_195 (K_57 h0) rfl d_X11_taken_33 ?_
    refine q_cI (f := (oI Sh)) (av := [.ref 92, .ref 20, .int x4, .int (gI D 57 0)]) (st := [.int (9 : Int32), .ref 0]) (z_runV ck_X2_rowByRow rfl ml_X11_341 ci_X2_rowByRow cv_X2_rowByRow (K_92 h0) (ci := 2) rfl rfl (Nat.le_of_ble_eq_true rfl) d_X11_taken_36) (s_X2_rowByRow hst h0 (by omega) (I_20)) kp_I (fun q5 _ => ?_)
    refine q_cV (f := (oI Sh)) (av := [.ref 0, .int (9 : Int32), .int q5.1]) (st := []) (z_runV ck_X11_keep rfl ml_X11_256 ci_X11_keep cv_X11_keep (K_0 h0) (ci := 11) rfl rfl (Nat.le_of_ble_eq_true rfl) d_X11_taken_39) (s_X11_keep hst h0 (by omega)) kp_I (fun D6 _ => ?_)
    refine r_aload_n (pc := 42) 0 d_X11_taken_42 rfl rfl ?_
    refine r_bipush (pc := 43) (9 : Int32) d_X11_taken_43 rfl ?_
    refine q_cP (f := (oI Sh)) (av := [.ref 0, .int (9 : Int32)]) (st := []) (z_runV ck_X11_keptAt rfl ml_X11_249 ci_X11_keptAt cv_X11_keptAt (K_0 h0) (ci := 11) rfl rfl (Nat.le_of_ble_eq_true rfl) d_X11_taken_45) (s_X11_keptAt hst h0 (by omega)) kp_I (fun x7 _ => ?_)
    exact r_iret (pc := 48) rfl d_X11_taken_48
/-! CoveredSigns.stand -/
theorem d_X11_stand_0 : decode (yB m_X11_stand) 0 = .ok (.aload_n 0, 1) := by decide +kernel
theorem d_X11_stand_1 : decode (yB m_X11_stand) 1 = .ok (.iload_n 1, 1) := by decide +kernel
theorem d_X11_stand_2 : decode (yB m_X11_stand) 2 = .ok (.invokevirtual 205, 3) := by decide +kernel
theorem d_X11_stand_5 : decode (yB m_X11_stand) 5 = .ok (.iload_n 2, 1) := by decide +kernel
theorem d_X11_stand_6 : decode (yB m_X11_stand) 6 = .ok (.ifCond .lt 20, 3) := by decide +kernel
theorem d_X11_stand_9 : decode (yB m_X11_stand) 9 = .ok (.iload_n 2, 1) := by decide +kernel
theorem d_X11_stand_10 : decode (yB m_X11_stand) 10 = .ok (.bipush 99, 2) := by decide +kernel
theorem d_X11_stand_12 : decode (yB m_X11_stand) 12 = .ok (.if_icmp .gt 14, 3) := by decide +kernel
theorem d_X11_stand_15 : decode (yB m_X11_stand) 15 = .ok (.iload_n 3, 1) := by decide +kernel
theorem d_X11_stand_16 : decode (yB m_X11_stand) 16 = .ok (.iconst 1, 1) := by decide +kernel
theorem d_X11_stand_17 : decode (yB m_X11_stand) 17 = .ok (.if_icmp .lt 9, 3) := by decide +kernel
theorem d_X11_stand_20 : decode (yB m_X11_stand) 20 = .ok (.iload_n 3, 1) := by decide +kernel
theorem d_X11_stand_21 : decode (yB m_X11_stand) 21 = .ok (.bipush 99, 2) := by decide +kernel
theorem d_X11_stand_23 : decode (yB m_X11_stand) 23 = .ok (.if_icmp .le 14, 3) := by decide +kernel
theorem d_X11_stand_26 : decode (yB m_X11_stand) 26 = .ok (.new 198, 3) := by decide +kernel
theorem d_X11_stand_29 : decode (yB m_X11_stand) 29 = .ok (.dup, 1) := by decide +kernel
theorem d_X11_stand_30 : decode (yB m_X11_stand) 30 = .ok (.ldc_w 344, 3) := by decide +kernel
theorem d_X11_stand_33 : decode (yB m_X11_stand) 33 = .ok (.invokespecial 202, 3) := by decide +kernel
theorem d_X11_stand_36 : decode (yB m_X11_stand) 36 = .ok (.athrow, 1) := by decide +kernel
theorem d_X11_stand_37 : decode (yB m_X11_stand) 37 = .ok (.aload_n 0, 1) := by decide +kernel
theorem d_X11_stand_38 : decode (yB m_X11_stand) 38 = .ok (.getfield 103, 3) := by decide +kernel
theorem d_X11_stand_41 : decode (yB m_X11_stand) 41 = .ok (.invokevirtual 157, 3) := by decide +kernel
theorem d_X11_stand_44 : decode (yB m_X11_stand) 44 = .ok (.aload_n 0, 1) := by decide +kernel
theorem d_X11_stand_45 : decode (yB m_X11_stand) 45 = .ok (.getfield 55, 3) := by decide +kernel
theorem d_X11_stand_48 : decode (yB m_X11_stand) 48 = .ok (.iload_n 1, 1) := by decide +kernel
theorem d_X11_stand_49 : decode (yB m_X11_stand) 49 = .ok (.iload_n 2, 1) := by decide +kernel
theorem d_X11_stand_50 : decode (yB m_X11_stand) 50 = .ok (.iload_n 3, 1) := by decide +kernel
theorem d_X11_stand_51 : decode (yB m_X11_stand) 51 = .ok (.invokevirtual 346, 3) := by decide +kernel
theorem d_X11_stand_54 : decode (yB m_X11_stand) 54 = .ok (.ireturn, 1) := by decide +kernel
def fn_X11_stand (v1 : Int32) (v2 : Int32) (v3 : Int32) (D : zD) : Option ((Nat ⊕ Int32) × zD) := (fn_X11_needSign v1 D).bind fun e1 => if e1 = 0 then ((if v2 < 0 then ((some (.inl 1, D))) else ((if (99 : Int32) < v2 then ((some (.inl 1, D))) else ((if v3 < (1 : Int32) then ((some (.inl 1, D))) else ((if v3 ≤ (99 : Int32) then ((fn_X5_spoil D).bind fun D7 => (fn_X9_addStanding 57 v1 v2 v3 D7).bind fun q8 => (some (.inr q8.1, q8.2))) else ((some (.inl 1, D))))))))))) else some (.inl e1, D)
theorem s_X11_stand {X : zX} {Sh : zSh} {d : Nat} (hst : (zl X).stackTraces = false) (h0 : zSh0 Sh) (hd : 9 ≤ d) {v1 : Int32} {v2 : Int32} {v3 : Int32} {D : zD} : Sd X m_X11_stand d [.ref 0, .int v1, .int v2, .int v3] (Sh, D) ((oXI Sh) (fn_X11_stand v1 v2 v3 D)) := by
  obtain ⟨d, rfl⟩ : ∃ e, d = e + 1 := ⟨d - 1, by omega⟩
  replace hd : 8 ≤ d := by omega
  refine z_body ck_X11_stand rfl (Nat.le_of_ble_eq_true rfl) rfl hst ?_
  rw [fn_X11_stand]
  show Rn X m_X11_stand (d + 1) 0 [(0, .ref 0), (1, .int v1), (2, .int v2), (3, .int v3)] [] (Sh, D) _
  refine r_aload_n (pc := 0) 0 d_X11_stand_0 rfl rfl ?_
  refine r_iload_n (pc := 1) 1 d_X11_stand_1 rfl rfl ?_
  refine q_cN (f := (oXI Sh)) (t := fun e1 => some (.inl e1, D)) (av := [.ref 0, .int v1]) (st := []) (z_runV ck_X11_needSign rfl ml_X11_205 ci_X11_needSign cv_X11_needSign (K_0 h0) (ci := 11) rfl rfl (Nat.le_of_ble_eq_true rfl) d_X11_stand_2) (s_X11_needSign hst h0 (by omega)) rfl kp_XI (fun _ _ => rfl) ?_
  refine r_iload_n (pc := 5) 2 d_X11_stand_5 rfl rfl ?_
  refine r_if_lt (f := (oXI Sh)) (pc := 6) 26 d_X11_stand_6 (by decide) (fun c3 => ?_) (fun c3 => ?_)
  · exact r_throwW tw_X11_344 d_X11_stand_26 d_X11_stand_29 d_X11_stand_30 d_X11_stand_33 d_X11_stand_36 rfl (by omega) (Nat.le_of_ble_eq_true rfl)
  · refine r_iload_n (pc := 9) 2 d_X11_stand_9 rfl rfl ?_
    refine r_bipush (pc := 10) (99 : Int32) d_X11_stand_10 rfl ?_
    refine r_icmp_gt (f := (oXI Sh)) (pc := 12) 26 d_X11_stand_12 (by decide) (fun c4 => ?_) (fun c4 => ?_)
    · exact r_throwW tw_X11_344 d_X11_stand_26 d_X11_stand_29 d_X11_stand_30 d_X11_stand_33 d_X11_stand_36 rfl (by omega) (Nat.le_of_ble_eq_true rfl)
    · refine r_iload_n (pc := 15) 3 d_X11_stand_15 rfl rfl ?_
      refine r_iconst (pc := 16) (1 : Int32) d_X11_stand_16 rfl ?_
      refine r_icmp_lt (f := (oXI Sh)) (pc := 17) 26 d_X11_stand_17 (by decide) (fun c5 => ?_) (fun c5 => ?_)
      · exact r_throwW tw_X11_344 d_X11_stand_26 d_X11_stand_29 d_X11_stand_30 d_X11_stand_33 d_X11_stand_36 rfl (by omega) (Nat.le_of_ble_eq_true rfl)
      · refine r_iload_n (pc := 20) 3 d_X11_stand_20 rfl rfl ?_
        refine r_bipush (pc := 21) (99 : Int32) d_X11_stand_21 rfl ?_
        refine r_icmp_le (f := (oXI Sh)) (pc := 23) 37 d_X11_stand_23 (by decide) (fun c6 => ?_) (fun c6 => ?_)
        · refine r_aload_n (pc := 37) 0 d_X11_stand_37 rfl rfl ?_
          refine r_getR (pc := 38) g_X11_103 (K_0 h0) rfl (R_0_14 h0) d_X11_stand_38 ?_
          refine q_cV (f := (oXI Sh)) (av := [.ref 97]) (st := []) (z_runV ck_X5_spoil rfl ml_X11_157 ci_X5_spoil cv_X5_spoil (K_97 h0) (ci := 5) rfl rfl (Nat.le_of_ble_eq_true rfl) d_X11_stand_41) (s_X5_spoil hst h0 (by omega)) kp_XI (fun D7 _ => ?_)
          refine r_aload_n (pc := 44) 0 d_X11_stand_44 rfl rfl ?_
          refine r_getR (pc := 45) g_X11_55 (K_0 h0) rfl (R_0_6 h0) d_X11_stand_45 ?_
          refine r_iload_n (pc := 48) 1 d_X11_stand_48 rfl rfl ?_
          refine r_iload_n (pc := 49) 2 d_X11_stand_49 rfl rfl ?_
          refine r_iload_n (pc := 50) 3 d_X11_stand_50 rfl rfl ?_
          refine q_cI (f := (oXI Sh)) (av := [.ref 57, .int v1, .int v2, .int v3]) (st := []) (z_runV ck_X9_addStanding rfl ml_X11_346 ci_X9_addStanding cv_X9_addStanding (K_57 h0) (ci := 9) rfl rfl (Nat.le_of_ble_eq_true rfl) d_X11_stand_51) (s_X9_addStanding hst h0 (by omega) (I_57)) kp_XI (fun q8 _ => ?_)
          exact r_iret (pc := 54) rfl d_X11_stand_54
        · exact r_throwW tw_X11_344 d_X11_stand_26 d_X11_stand_29 d_X11_stand_30 d_X11_stand_33 d_X11_stand_36 rfl (by omega) (Nat.le_of_ble_eq_true rfl)
/-! CoveredSigns.leave -/
theorem d_X11_leave_0 : decode (yB m_X11_leave) 0 = .ok (.aload_n 0, 1) := by decide +kernel
theorem d_X11_leave_1 : decode (yB m_X11_leave) 1 = .ok (.getfield 55, 3) := by decide +kernel
theorem d_X11_leave_4 : decode (yB m_X11_leave) 4 = .ok (.getfield 349, 3) := by decide +kernel
theorem d_X11_leave_7 : decode (yB m_X11_leave) 7 = .ok (.istore_n 1, 1) := by decide +kernel
theorem d_X11_leave_8 : decode (yB m_X11_leave) 8 = .ok (.aload_n 0, 1) := by decide +kernel
theorem d_X11_leave_9 : decode (yB m_X11_leave) 9 = .ok (.getfield 55, 3) := by decide +kernel
theorem d_X11_leave_12 : decode (yB m_X11_leave) 12 = .ok (.iconst 0, 1) := by decide +kernel
theorem d_X11_leave_13 : decode (yB m_X11_leave) 13 = .ok (.putfield 349, 3) := by decide +kernel
theorem d_X11_leave_16 : decode (yB m_X11_leave) 16 = .ok (.aload_n 0, 1) := by decide +kernel
theorem d_X11_leave_17 : decode (yB m_X11_leave) 17 = .ok (.getfield 103, 3) := by decide +kernel
theorem d_X11_leave_20 : decode (yB m_X11_leave) 20 = .ok (.invokevirtual 157, 3) := by decide +kernel
theorem d_X11_leave_23 : decode (yB m_X11_leave) 23 = .ok (.iload_n 1, 1) := by decide +kernel
theorem d_X11_leave_24 : decode (yB m_X11_leave) 24 = .ok (.ireturn, 1) := by decide +kernel
def fn_X11_leave (D : zD) : Option (Int32 × zD) := zlet (gI D 57 2) fun x1 => zlet (sI D 57 2 (0 : Int32)) fun D2 => (fn_X5_spoil D2).bind fun D3 => (some (x1, D3))
theorem s_X11_leave {X : zX} {Sh : zSh} {d : Nat} (hst : (zl X).stackTraces = false) (h0 : zSh0 Sh) (hd : 3 ≤ d)  {D : zD} : Sd X m_X11_leave d [.ref 0] (Sh, D) ((oI Sh) (fn_X11_leave D)) := by
  obtain ⟨d, rfl⟩ : ∃ e, d = e + 1 := ⟨d - 1, by omega⟩
  replace hd : 2 ≤ d := by omega
  refine z_body ck_X11_leave rfl (Nat.le_of_ble_eq_true rfl) rfl hst ?_
  rw [fn_X11_leave]
  show Rn X m_X11_leave (d + 1) 0 [(0, .ref 0)] [] (Sh, D) _
  refine r_aload_n (pc := 0) 0 d_X11_leave_0 rfl rfl ?_
  refine r_getR (pc := 1) g_X11_55 (K_0 h0) rfl (R_0_6 h0) d_X11_leave_1 ?_
  refine q_gIn (pc := 4) g_X11_349 (K_57 h0) rfl d_X11_leave_4 ?_
  refine r_leti (f := (oI Sh)) (fun x1 => ?_)
  refine r_istore_n (pc := 7) (ls' := [(1, .int x1), (0, .ref 0)]) d_X11_leave_7 rfl (Nat.le_of_ble_eq_true rfl) rfl ?_
  refine r_aload_n (pc := 8) 1 d_X11_leave_8 rfl rfl ?_
  refine r_getR (pc := 9) g_X11_55 (K_0 h0) rfl (R_0_6 h0) d_X11_leave_9 ?_
  refine r_iconst (pc := 12) (0 : Int32) d_X11_leave_12 rfl ?_
  refine r_putIn (pc := 13) p_X11_349 (K_57 h0) rfl (Or.inl rfl) d_X11_leave_13 ?_
  refine r_letD (f := (oI Sh)) (fun D2 => ?_)
  refine r_aload_n (pc := 16) 1 d_X11_leave_16 rfl rfl ?_
  refine r_getR (pc := 17) g_X11_103 (K_0 h0) rfl (R_0_14 h0) d_X11_leave_17 ?_
  refine q_cV (f := (oI Sh)) (av := [.ref 97]) (st := []) (z_runV ck_X5_spoil rfl ml_X11_157 ci_X5_spoil cv_X5_spoil (K_97 h0) (ci := 5) rfl rfl (Nat.le_of_ble_eq_true rfl) d_X11_leave_20) (s_X5_spoil hst h0 (by omega)) kp_I (fun D3 _ => ?_)
  refine r_iload_n (pc := 23) 0 d_X11_leave_23 rfl rfl ?_
  exact r_iret (pc := 24) rfl d_X11_leave_24
/-! CoveredSigns.needStanding -/
theorem d_X11_needStanding_0 : decode (yB m_X11_needStanding) 0 = .ok (.iload_n 1, 1) := by decide +kernel
theorem d_X11_needStanding_1 : decode (yB m_X11_needStanding) 1 = .ok (.ifCond .lt 14, 3) := by decide +kernel
theorem d_X11_needStanding_4 : decode (yB m_X11_needStanding) 4 = .ok (.iload_n 1, 1) := by decide +kernel
theorem d_X11_needStanding_5 : decode (yB m_X11_needStanding) 5 = .ok (.aload_n 0, 1) := by decide +kernel
theorem d_X11_needStanding_6 : decode (yB m_X11_needStanding) 6 = .ok (.getfield 55, 3) := by decide +kernel
theorem d_X11_needStanding_9 : decode (yB m_X11_needStanding) 9 = .ok (.getfield 349, 3) := by decide +kernel
theorem d_X11_needStanding_12 : decode (yB m_X11_needStanding) 12 = .ok (.if_icmp .lt 14, 3) := by decide +kernel
theorem d_X11_needStanding_15 : decode (yB m_X11_needStanding) 15 = .ok (.new 215, 3) := by decide +kernel
theorem d_X11_needStanding_18 : decode (yB m_X11_needStanding) 18 = .ok (.dup, 1) := by decide +kernel
theorem d_X11_needStanding_19 : decode (yB m_X11_needStanding) 19 = .ok (.ldc_w 398, 3) := by decide +kernel
theorem d_X11_needStanding_22 : decode (yB m_X11_needStanding) 22 = .ok (.invokespecial 219, 3) := by decide +kernel
theorem d_X11_needStanding_25 : decode (yB m_X11_needStanding) 25 = .ok (.athrow, 1) := by decide +kernel
theorem d_X11_needStanding_26 : decode (yB m_X11_needStanding) 26 = .ok (.return_, 1) := by decide +kernel
def fn_X11_needStanding (v1 : Int32) (D : zD) : Option Nat := (if v1 < 0 then ((some 2)) else ((if v1 < (gI D 57 2) then ((some 0)) else ((some 2)))))
theorem s_X11_needStanding {X : zX} {Sh : zSh} {d : Nat} (hst : (zl X).stackTraces = false) (h0 : zSh0 Sh) (hd : 8 ≤ d) {v1 : Int32} {D : zD} : Sd X m_X11_needStanding d [.ref 0, .int v1] (Sh, D) ((oN Sh D) (fn_X11_needStanding v1 D)) := by
  obtain ⟨d, rfl⟩ : ∃ e, d = e + 1 := ⟨d - 1, by omega⟩
  replace hd : 7 ≤ d := by omega
  refine z_body ck_X11_needStanding rfl (Nat.le_of_ble_eq_true rfl) rfl hst ?_
  rw [fn_X11_needStanding]
  show Rn X m_X11_needStanding (d + 1) 0 [(0, .ref 0), (1, .int v1)] [] (Sh, D) _
  refine r_iload_n (pc := 0) 1 d_X11_needStanding_0 rfl rfl ?_
  refine r_if_lt (f := (oN Sh D)) (pc := 1) 15 d_X11_needStanding_1 (by decide) (fun c1 => ?_) (fun c1 => ?_)
  · exact r_throwW tw_X11_398 d_X11_needStanding_15 d_X11_needStanding_18 d_X11_needStanding_19 d_X11_needStanding_22 d_X11_needStanding_25 rfl (by omega) (Nat.le_of_ble_eq_true rfl)
  · refine r_iload_n (pc := 4) 1 d_X11_needStanding_4 rfl rfl ?_
    refine r_aload_n (pc := 5) 0 d_X11_needStanding_5 rfl rfl ?_
    refine r_getR (pc := 6) g_X11_55 (K_0 h0) rfl (R_0_6 h0) d_X11_needStanding_6 ?_
    refine q_gIn (pc := 9) g_X11_349 (K_57 h0) rfl d_X11_needStanding_9 ?_
    refine r_icmp_lt (f := (oN Sh D)) (pc := 12) 26 d_X11_needStanding_12 (by decide) (fun c2 => ?_) (fun c2 => ?_)
    · exact r_vret (pc := 26) rfl d_X11_needStanding_26
    · exact r_throwW tw_X11_398 d_X11_needStanding_15 d_X11_needStanding_18 d_X11_needStanding_19 d_X11_needStanding_22 d_X11_needStanding_25 rfl (by omega) (Nat.le_of_ble_eq_true rfl)
/-! CoveredSigns.needView -/
theorem d_X11_needView_0 : decode (yB m_X11_needView) 0 = .ok (.aload_n 0, 1) := by decide +kernel
theorem d_X11_needView_1 : decode (yB m_X11_needView) 1 = .ok (.iload_n 1, 1) := by decide +kernel
theorem d_X11_needView_2 : decode (yB m_X11_needView) 2 = .ok (.invokevirtual 363, 3) := by decide +kernel
theorem d_X11_needView_5 : decode (yB m_X11_needView) 5 = .ok (.iload_n 2, 1) := by decide +kernel
theorem d_X11_needView_6 : decode (yB m_X11_needView) 6 = .ok (.ifCond .lt 9, 3) := by decide +kernel
theorem d_X11_needView_9 : decode (yB m_X11_needView) 9 = .ok (.iload_n 2, 1) := by decide +kernel
theorem d_X11_needView_10 : decode (yB m_X11_needView) 10 = .ok (.bipush 100, 2) := by decide +kernel
theorem d_X11_needView_12 : decode (yB m_X11_needView) 12 = .ok (.if_icmp .lt 14, 3) := by decide +kernel
theorem d_X11_needView_15 : decode (yB m_X11_needView) 15 = .ok (.new 198, 3) := by decide +kernel
theorem d_X11_needView_18 : decode (yB m_X11_needView) 18 = .ok (.dup, 1) := by decide +kernel
theorem d_X11_needView_19 : decode (yB m_X11_needView) 19 = .ok (.ldc_w 400, 3) := by decide +kernel
theorem d_X11_needView_22 : decode (yB m_X11_needView) 22 = .ok (.invokespecial 202, 3) := by decide +kernel
theorem d_X11_needView_25 : decode (yB m_X11_needView) 25 = .ok (.athrow, 1) := by decide +kernel
theorem d_X11_needView_26 : decode (yB m_X11_needView) 26 = .ok (.return_, 1) := by decide +kernel
def fn_X11_needView (v1 : Int32) (v2 : Int32) (D : zD) : Option Nat := (fn_X11_needStanding v1 D).bind fun e1 => if e1 = 0 then ((if v2 < 0 then ((some 1)) else ((if v2 < (100 : Int32) then ((some 0)) else ((some 1)))))) else some e1
theorem s_X11_needView {X : zX} {Sh : zSh} {d : Nat} (hst : (zl X).stackTraces = false) (h0 : zSh0 Sh) (hd : 9 ≤ d) {v1 : Int32} {v2 : Int32} {D : zD} : Sd X m_X11_needView d [.ref 0, .int v1, .int v2] (Sh, D) ((oN Sh D) (fn_X11_needView v1 v2 D)) := by
  obtain ⟨d, rfl⟩ : ∃ e, d = e + 1 := ⟨d - 1, by omega⟩
  replace hd : 8 ≤ d := by omega
  refine z_body ck_X11_needView rfl (Nat.le_of_ble_eq_true rfl) rfl hst ?_
  rw [fn_X11_needView]
  show Rn X m_X11_needView (d + 1) 0 [(0, .ref 0), (1, .int v1), (2, .int v2)] [] (Sh, D) _
  refine r_aload_n (pc := 0) 0 d_X11_needView_0 rfl rfl ?_
  refine r_iload_n (pc := 1) 1 d_X11_needView_1 rfl rfl ?_
  refine q_cN (f := (oN Sh D)) (t := fun e1 => some e1) (av := [.ref 0, .int v1]) (st := []) (z_runV ck_X11_needStanding rfl ml_X11_363 ci_X11_needStanding cv_X11_needStanding (K_0 h0) (ci := 11) rfl rfl (Nat.le_of_ble_eq_true rfl) d_X11_needView_2) (s_X11_needStanding hst h0 (by omega)) rfl kp_N (fun _ h => by simp [oN, h]) ?_
  refine r_iload_n (pc := 5) 2 d_X11_needView_5 rfl rfl ?_
  refine r_if_lt (f := (oN Sh D)) (pc := 6) 15 d_X11_needView_6 (by decide) (fun c3 => ?_) (fun c3 => ?_)
  · exact r_throwW tw_X11_400 d_X11_needView_15 d_X11_needView_18 d_X11_needView_19 d_X11_needView_22 d_X11_needView_25 rfl (by omega) (Nat.le_of_ble_eq_true rfl)
  · refine r_iload_n (pc := 9) 2 d_X11_needView_9 rfl rfl ?_
    refine r_bipush (pc := 10) (100 : Int32) d_X11_needView_10 rfl ?_
    refine r_icmp_lt (f := (oN Sh D)) (pc := 12) 26 d_X11_needView_12 (by decide) (fun c4 => ?_) (fun c4 => ?_)
    · exact r_vret (pc := 26) rfl d_X11_needView_26
    · exact r_throwW tw_X11_400 d_X11_needView_15 d_X11_needView_18 d_X11_needView_19 d_X11_needView_22 d_X11_needView_25 rfl (by omega) (Nat.le_of_ble_eq_true rfl)
/-! CoveredSigns.seen -/
theorem d_X11_seen_0 : decode (yB m_X11_seen) 0 = .ok (.aload_n 0, 1) := by decide +kernel
theorem d_X11_seen_1 : decode (yB m_X11_seen) 1 = .ok (.iload_n 1, 1) := by decide +kernel
theorem d_X11_seen_2 : decode (yB m_X11_seen) 2 = .ok (.iload_n 2, 1) := by decide +kernel
theorem d_X11_seen_3 : decode (yB m_X11_seen) 3 = .ok (.invokevirtual 352, 3) := by decide +kernel
theorem d_X11_seen_6 : decode (yB m_X11_seen) 6 = .ok (.aload_n 0, 1) := by decide +kernel
theorem d_X11_seen_7 : decode (yB m_X11_seen) 7 = .ok (.getfield 103, 3) := by decide +kernel
theorem d_X11_seen_10 : decode (yB m_X11_seen) 10 = .ok (.aload_n 0, 1) := by decide +kernel
theorem d_X11_seen_11 : decode (yB m_X11_seen) 11 = .ok (.getfield 55, 3) := by decide +kernel
theorem d_X11_seen_14 : decode (yB m_X11_seen) 14 = .ok (.aload_n 0, 1) := by decide +kernel
theorem d_X11_seen_15 : decode (yB m_X11_seen) 15 = .ok (.getfield 25, 3) := by decide +kernel
theorem d_X11_seen_18 : decode (yB m_X11_seen) 18 = .ok (.getfield 166, 3) := by decide +kernel
theorem d_X11_seen_21 : decode (yB m_X11_seen) 21 = .ok (.iload_n 1, 1) := by decide +kernel
theorem d_X11_seen_22 : decode (yB m_X11_seen) 22 = .ok (.iload_n 2, 1) := by decide +kernel
theorem d_X11_seen_23 : decode (yB m_X11_seen) 23 = .ok (.iload_n 3, 1) := by decide +kernel
theorem d_X11_seen_24 : decode (yB m_X11_seen) 24 = .ok (.invokevirtual 355, 3) := by decide +kernel
theorem d_X11_seen_27 : decode (yB m_X11_seen) 27 = .ok (.ireturn, 1) := by decide +kernel
def fn_X11_seen (v1 : Int32) (v2 : Int32) (v3 : Int32) (D : zD) : Option ((Nat ⊕ Int32) × zD) := (fn_X11_needView v1 v2 D).bind fun e1 => if e1 = 0 then ((fn_X5_columns 57 (gI D 3 0) v1 v2 v3 D).bind fun q3 => (some (.inr q3.1, q3.2))) else some (.inl e1, D)
theorem s_X11_seen {X : zX} {Sh : zSh} {d : Nat} (hst : (zl X).stackTraces = false) (h0 : zSh0 Sh) (hd : 10 ≤ d) {v1 : Int32} {v2 : Int32} {v3 : Int32} {D : zD} : Sd X m_X11_seen d [.ref 0, .int v1, .int v2, .int v3] (Sh, D) ((oXI Sh) (fn_X11_seen v1 v2 v3 D)) := by
  obtain ⟨d, rfl⟩ : ∃ e, d = e + 1 := ⟨d - 1, by omega⟩
  replace hd : 9 ≤ d := by omega
  refine z_body ck_X11_seen rfl (Nat.le_of_ble_eq_true rfl) rfl hst ?_
  rw [fn_X11_seen]
  show Rn X m_X11_seen (d + 1) 0 [(0, .ref 0), (1, .int v1), (2, .int v2), (3, .int v3)] [] (Sh, D) _
  refine r_aload_n (pc := 0) 0 d_X11_seen_0 rfl rfl ?_
  refine r_iload_n (pc := 1) 1 d_X11_seen_1 rfl rfl ?_
  refine r_iload_n (pc := 2) 2 d_X11_seen_2 rfl rfl ?_
  refine q_cN (f := (oXI Sh)) (t := fun e1 => some (.inl e1, D)) (av := [.ref 0, .int v1, .int v2]) (st := []) (z_runV ck_X11_needView rfl ml_X11_352 ci_X11_needView cv_X11_needView (K_0 h0) (ci := 11) rfl rfl (Nat.le_of_ble_eq_true rfl) d_X11_seen_3) (s_X11_needView hst h0 (by omega)) rfl kp_XI (fun _ _ => rfl) ?_
  refine r_aload_n (pc := 6) 0 d_X11_seen_6 rfl rfl ?_
  refine r_getR (pc := 7) g_X11_103 (K_0 h0) rfl (R_0_14 h0) d_X11_seen_7 ?_
  refine r_aload_n (pc := 10) 0 d_X11_seen_10 rfl rfl ?_
  refine r_getR (pc := 11) g_X11_55 (K_0 h0) rfl (R_0_6 h0) d_X11_seen_11 ?_
  refine r_aload_n (pc := 14) 0 d_X11_seen_14 rfl rfl ?_
  refine r_getR (pc := 15) g_X11_25 (K_0 h0) rfl (R_0_2 h0) d_X11_seen_15 ?_
  refine q_gIn (pc := 18) g_X11_166 (K_3 h0) rfl d_X11_seen_18 ?_
  refine r_iload_n (pc := 21) 1 d_X11_seen_21 rfl rfl ?_
  refine r_iload_n (pc := 22) 2 d_X11_seen_22 rfl rfl ?_
  refine r_iload_n (pc := 23) 3 d_X11_seen_23 rfl rfl ?_
  refine q_cI (f := (oXI Sh)) (av := [.ref 97, .ref 57, .int (gI D 3 0), .int v1, .int v2, .int v3]) (st := []) (z_runV ck_X5_columns rfl ml_X11_355 ci_X5_columns cv_X5_columns (K_97 h0) (ci := 5) rfl rfl (Nat.le_of_ble_eq_true rfl) d_X11_seen_24) (s_X5_columns hst h0 (by omega) (I_57)) kp_XI (fun q3 _ => ?_)
  exact r_iret (pc := 27) rfl d_X11_seen_27
/-! CoveredSigns.guessBits -/
theorem d_X11_guessBits_0 : decode (yB m_X11_guessBits) 0 = .ok (.aload_n 0, 1) := by decide +kernel
theorem d_X11_guessBits_1 : decode (yB m_X11_guessBits) 1 = .ok (.getfield 103, 3) := by decide +kernel
theorem d_X11_guessBits_4 : decode (yB m_X11_guessBits) 4 = .ok (.aload_n 0, 1) := by decide +kernel
theorem d_X11_guessBits_5 : decode (yB m_X11_guessBits) 5 = .ok (.getfield 55, 3) := by decide +kernel
theorem d_X11_guessBits_8 : decode (yB m_X11_guessBits) 8 = .ok (.aload_n 0, 1) := by decide +kernel
theorem d_X11_guessBits_9 : decode (yB m_X11_guessBits) 9 = .ok (.getfield 25, 3) := by decide +kernel
theorem d_X11_guessBits_12 : decode (yB m_X11_guessBits) 12 = .ok (.getfield 166, 3) := by decide +kernel
theorem d_X11_guessBits_15 : decode (yB m_X11_guessBits) 15 = .ok (.iload_n 1, 1) := by decide +kernel
theorem d_X11_guessBits_16 : decode (yB m_X11_guessBits) 16 = .ok (.iload_n 2, 1) := by decide +kernel
theorem d_X11_guessBits_17 : decode (yB m_X11_guessBits) 17 = .ok (.iload_n 3, 1) := by decide +kernel
theorem d_X11_guessBits_18 : decode (yB m_X11_guessBits) 18 = .ok (.invokevirtual 355, 3) := by decide +kernel
theorem d_X11_guessBits_21 : decode (yB m_X11_guessBits) 21 = .ok (.istore 4, 2) := by decide +kernel
theorem d_X11_guessBits_23 : decode (yB m_X11_guessBits) 23 = .ok (.aload_n 0, 1) := by decide +kernel
theorem d_X11_guessBits_24 : decode (yB m_X11_guessBits) 24 = .ok (.getfield 25, 3) := by decide +kernel
theorem d_X11_guessBits_27 : decode (yB m_X11_guessBits) 27 = .ok (.invokevirtual 393, 3) := by decide +kernel
theorem d_X11_guessBits_30 : decode (yB m_X11_guessBits) 30 = .ok (.aload_n 0, 1) := by decide +kernel
theorem d_X11_guessBits_31 : decode (yB m_X11_guessBits) 31 = .ok (.getfield 25, 3) := by decide +kernel
theorem d_X11_guessBits_34 : decode (yB m_X11_guessBits) 34 = .ok (.iload 4, 2) := by decide +kernel
theorem d_X11_guessBits_36 : decode (yB m_X11_guessBits) 36 = .ok (.invokevirtual 418, 3) := by decide +kernel
theorem d_X11_guessBits_39 : decode (yB m_X11_guessBits) 39 = .ok (.iconst (-1), 1) := by decide +kernel
theorem d_X11_guessBits_40 : decode (yB m_X11_guessBits) 40 = .ok (.ixor, 1) := by decide +kernel
theorem d_X11_guessBits_41 : decode (yB m_X11_guessBits) 41 = .ok (.iand, 1) := by decide +kernel
theorem d_X11_guessBits_42 : decode (yB m_X11_guessBits) 42 = .ok (.istore 5, 2) := by decide +kernel
theorem d_X11_guessBits_44 : decode (yB m_X11_guessBits) 44 = .ok (.aload_n 0, 1) := by decide +kernel
theorem d_X11_guessBits_45 : decode (yB m_X11_guessBits) 45 = .ok (.getfield 25, 3) := by decide +kernel
theorem d_X11_guessBits_48 : decode (yB m_X11_guessBits) 48 = .ok (.iload 5, 2) := by decide +kernel
theorem d_X11_guessBits_50 : decode (yB m_X11_guessBits) 50 = .ok (.aload_n 0, 1) := by decide +kernel
theorem d_X11_guessBits_51 : decode (yB m_X11_guessBits) 51 = .ok (.getfield 25, 3) := by decide +kernel
theorem d_X11_guessBits_54 : decode (yB m_X11_guessBits) 54 = .ok (.aload_n 0, 1) := by decide +kernel
theorem d_X11_guessBits_55 : decode (yB m_X11_guessBits) 55 = .ok (.getfield 55, 3) := by decide +kernel
theorem d_X11_guessBits_58 : decode (yB m_X11_guessBits) 58 = .ok (.iload_n 1, 1) := by decide +kernel
theorem d_X11_guessBits_59 : decode (yB m_X11_guessBits) 59 = .ok (.invokevirtual 421, 3) := by decide +kernel
theorem d_X11_guessBits_62 : decode (yB m_X11_guessBits) 62 = .ok (.invokevirtual 208, 3) := by decide +kernel
theorem d_X11_guessBits_65 : decode (yB m_X11_guessBits) 65 = .ok (.aload_n 0, 1) := by decide +kernel
theorem d_X11_guessBits_66 : decode (yB m_X11_guessBits) 66 = .ok (.getfield 55, 3) := by decide +kernel
theorem d_X11_guessBits_69 : decode (yB m_X11_guessBits) 69 = .ok (.getfield 195, 3) := by decide +kernel
theorem d_X11_guessBits_72 : decode (yB m_X11_guessBits) 72 = .ok (.invokevirtual 266, 3) := by decide +kernel
theorem d_X11_guessBits_75 : decode (yB m_X11_guessBits) 75 = .ok (.ireturn, 1) := by decide +kernel
def fn_X11_guessBits (v1 : Int32) (v2 : Int32) (v3 : Int32) (D : zD) : Option (Int32 × zD) := (fn_X5_columns 57 (gI D 3 0) v1 v2 v3 D).bind fun q1 => (fn_X0_board 3 q1.2).bind fun x2 => (fn_X0_columnCells 3 q1.1 q1.2).bind fun x3 => zlet (x2 &&& (x3 ^^^ (-1 : Int32))) fun x4 => (fn_X9_signOf 57 v1 q1.2).bind fun x5 => (fn_X0_paintOf 3 x5 q1.2).bind fun x6 => (fn_X0_within 3 x4 x6 (gI q1.2 57 0) q1.2).bind fun x7 => (some (x7, q1.2))
theorem s_X11_guessBits {X : zX} {Sh : zSh} {d : Nat} (hst : (zl X).stackTraces = false) (h0 : zSh0 Sh) (hd : 5 ≤ d) {v1 : Int32} {v2 : Int32} {v3 : Int32} {D : zD} : Sd X m_X11_guessBits d [.ref 0, .int v1, .int v2, .int v3] (Sh, D) ((oI Sh) (fn_X11_guessBits v1 v2 v3 D)) := by
  obtain ⟨d, rfl⟩ : ∃ e, d = e + 1 := ⟨d - 1, by omega⟩
  replace hd : 4 ≤ d := by omega
  refine z_body ck_X11_guessBits rfl (Nat.le_of_ble_eq_true rfl) rfl hst ?_
  rw [fn_X11_guessBits]
  show Rn X m_X11_guessBits (d + 1) 0 [(0, .ref 0), (1, .int v1), (2, .int v2), (3, .int v3)] [] (Sh, D) _
  refine r_aload_n (pc := 0) 0 d_X11_guessBits_0 rfl rfl ?_
  refine r_getR (pc := 1) g_X11_103 (K_0 h0) rfl (R_0_14 h0) d_X11_guessBits_1 ?_
  refine r_aload_n (pc := 4) 0 d_X11_guessBits_4 rfl rfl ?_
  refine r_getR (pc := 5) g_X11_55 (K_0 h0) rfl (R_0_6 h0) d_X11_guessBits_5 ?_
  refine r_aload_n (pc := 8) 0 d_X11_guessBits_8 rfl rfl ?_
  refine r_getR (pc := 9) g_X11_25 (K_0 h0) rfl (R_0_2 h0) d_X11_guessBits_9 ?_
  refine q_gIn (pc := 12) g_X11_166 (K_3 h0) rfl d_X11_guessBits_12 ?_
  refine r_iload_n (pc := 15) 1 d_X11_guessBits_15 rfl rfl ?_
  refine r_iload_n (pc := 16) 2 d_X11_guessBits_16 rfl rfl ?_
  refine r_iload_n (pc := 17) 3 d_X11_guessBits_17 rfl rfl ?_
  refine q_cI (f := (oI Sh)) (av := [.ref 97, .ref 57, .int (gI D 3 0), .int v1, .int v2, .int v3]) (st := []) (z_runV ck_X5_columns rfl ml_X11_355 ci_X5_columns cv_X5_columns (K_97 h0) (ci := 5) rfl rfl (Nat.le_of_ble_eq_true rfl) d_X11_guessBits_18) (s_X5_columns hst h0 (by omega) (I_57)) kp_I (fun q1 _ => ?_)
  refine r_istore (pc := 21) (ls' := [(4, .int q1.1), (0, .ref 0), (1, .int v1), (2, .int v2), (3, .int v3)]) d_X11_guessBits_21 (Nat.le_of_ble_eq_true rfl) rfl ?_
  refine r_aload_n (pc := 23) 1 d_X11_guessBits_23 rfl rfl ?_
  refine r_getR (pc := 24) g_X11_25 (K_0 h0) rfl (R_0_2 h0) d_X11_guessBits_24 ?_
  refine q_cP (f := (oI Sh)) (av := [.ref 3]) (st := []) (z_runV ck_X0_board rfl ml_X11_393 ci_X0_board cv_X0_board (K_3 h0) (ci := 0) rfl rfl (Nat.le_of_ble_eq_true rfl) d_X11_guessBits_27) (s_X0_board hst h0 (by omega) (I_3)) kp_I (fun x2 _ => ?_)
  refine r_aload_n (pc := 30) 1 d_X11_guessBits_30 rfl rfl ?_
  refine r_getR (pc := 31) g_X11_25 (K_0 h0) rfl (R_0_2 h0) d_X11_guessBits_31 ?_
  refine r_iload (pc := 34) 0 d_X11_guessBits_34 rfl ?_
  refine q_cP (f := (oI Sh)) (av := [.ref 3, .int q1.1]) (st := [.int x2]) (z_runV ck_X0_columnCells rfl ml_X11_418 ci_X0_columnCells cv_X0_columnCells (K_3 h0) (ci := 0) rfl rfl (Nat.le_of_ble_eq_true rfl) d_X11_guessBits_36) (s_X0_columnCells hst h0 (by omega) (I_3)) kp_I (fun x3 _ => ?_)
  refine r_iconst (pc := 39) (-1 : Int32) d_X11_guessBits_39 rfl ?_
  refine r_ixor (pc := 40) d_X11_guessBits_40 ?_
  refine r_iand (pc := 41) d_X11_guessBits_41 ?_
  refine r_leti (f := (oI Sh)) (fun x4 => ?_)
  refine r_istore (pc := 42) (ls' := [(5, .int x4), (4, .int q1.1), (0, .ref 0), (1, .int v1), (2, .int v2), (3, .int v3)]) d_X11_guessBits_42 (Nat.le_of_ble_eq_true rfl) rfl ?_
  refine r_aload_n (pc := 44) 2 d_X11_guessBits_44 rfl rfl ?_
  refine r_getR (pc := 45) g_X11_25 (K_0 h0) rfl (R_0_2 h0) d_X11_guessBits_45 ?_
  refine r_iload (pc := 48) 0 d_X11_guessBits_48 rfl ?_
  refine r_aload_n (pc := 50) 2 d_X11_guessBits_50 rfl rfl ?_
  refine r_getR (pc := 51) g_X11_25 (K_0 h0) rfl (R_0_2 h0) d_X11_guessBits_51 ?_
  refine r_aload_n (pc := 54) 2 d_X11_guessBits_54 rfl rfl ?_
  refine r_getR (pc := 55) g_X11_55 (K_0 h0) rfl (R_0_6 h0) d_X11_guessBits_55 ?_
  refine r_iload_n (pc := 58) 3 d_X11_guessBits_58 rfl rfl ?_
  refine q_cP (f := (oI Sh)) (av := [.ref 57, .int v1]) (st := [.ref 3, .int x4, .ref 3]) (z_runV ck_X9_signOf rfl ml_X11_421 ci_X9_signOf cv_X9_signOf (K_57 h0) (ci := 9) rfl rfl (Nat.le_of_ble_eq_true rfl) d_X11_guessBits_59) (s_X9_signOf hst h0 (by omega) (I_57)) kp_I (fun x5 _ => ?_)
  refine q_cP (f := (oI Sh)) (av := [.ref 3, .int x5]) (st := [.int x4, .ref 3]) (z_runV ck_X0_paintOf rfl ml_X11_208 ci_X0_paintOf cv_X0_paintOf (K_3 h0) (ci := 0) rfl rfl (Nat.le_of_ble_eq_true rfl) d_X11_guessBits_62) (s_X0_paintOf hst h0 (by omega) (I_3)) kp_I (fun x6 _ => ?_)
  refine r_aload_n (pc := 65) 2 d_X11_guessBits_65 rfl rfl ?_
  refine r_getR (pc := 66) g_X11_55 (K_0 h0) rfl (R_0_6 h0) d_X11_guessBits_66 ?_
  refine q_gIn (pc := 69) g_X11_195 (K_57 h0) rfl d_X11_guessBits_69 ?_
  refine q_cP (f := (oI Sh)) (av := [.ref 3, .int x4, .int x6, .int (gI q1.2 57 0)]) (st := []) (z_runV ck_X0_within rfl ml_X11_266 ci_X0_within cv_X0_within (K_3 h0) (ci := 0) rfl rfl (Nat.le_of_ble_eq_true rfl) d_X11_guessBits_72) (s_X0_within hst h0 (by omega) (I_3)) kp_I (fun x7 _ => ?_)
  exact r_iret (pc := 75) rfl d_X11_guessBits_75
/-! CoveredSigns.guess -/
theorem d_X11_guess_0 : decode (yB m_X11_guess) 0 = .ok (.aload_n 0, 1) := by decide +kernel
theorem d_X11_guess_1 : decode (yB m_X11_guess) 1 = .ok (.iload_n 1, 1) := by decide +kernel
theorem d_X11_guess_2 : decode (yB m_X11_guess) 2 = .ok (.iload_n 2, 1) := by decide +kernel
theorem d_X11_guess_3 : decode (yB m_X11_guess) 3 = .ok (.invokevirtual 352, 3) := by decide +kernel
theorem d_X11_guess_6 : decode (yB m_X11_guess) 6 = .ok (.aload_n 0, 1) := by decide +kernel
theorem d_X11_guess_7 : decode (yB m_X11_guess) 7 = .ok (.iload_n 1, 1) := by decide +kernel
theorem d_X11_guess_8 : decode (yB m_X11_guess) 8 = .ok (.iload_n 2, 1) := by decide +kernel
theorem d_X11_guess_9 : decode (yB m_X11_guess) 9 = .ok (.iload_n 3, 1) := by decide +kernel
theorem d_X11_guess_10 : decode (yB m_X11_guess) 10 = .ok (.invokevirtual 359, 3) := by decide +kernel
theorem d_X11_guess_13 : decode (yB m_X11_guess) 13 = .ok (.ireturn, 1) := by decide +kernel
def fn_X11_guess (v1 : Int32) (v2 : Int32) (v3 : Int32) (D : zD) : Option ((Nat ⊕ Int32) × zD) := (fn_X11_needView v1 v2 D).bind fun e1 => if e1 = 0 then ((fn_X11_guessBits v1 v2 v3 D).bind fun q3 => (some (.inr q3.1, q3.2))) else some (.inl e1, D)
theorem s_X11_guess {X : zX} {Sh : zSh} {d : Nat} (hst : (zl X).stackTraces = false) (h0 : zSh0 Sh) (hd : 10 ≤ d) {v1 : Int32} {v2 : Int32} {v3 : Int32} {D : zD} : Sd X m_X11_guess d [.ref 0, .int v1, .int v2, .int v3] (Sh, D) ((oXI Sh) (fn_X11_guess v1 v2 v3 D)) := by
  obtain ⟨d, rfl⟩ : ∃ e, d = e + 1 := ⟨d - 1, by omega⟩
  replace hd : 9 ≤ d := by omega
  refine z_body ck_X11_guess rfl (Nat.le_of_ble_eq_true rfl) rfl hst ?_
  rw [fn_X11_guess]
  show Rn X m_X11_guess (d + 1) 0 [(0, .ref 0), (1, .int v1), (2, .int v2), (3, .int v3)] [] (Sh, D) _
  refine r_aload_n (pc := 0) 0 d_X11_guess_0 rfl rfl ?_
  refine r_iload_n (pc := 1) 1 d_X11_guess_1 rfl rfl ?_
  refine r_iload_n (pc := 2) 2 d_X11_guess_2 rfl rfl ?_
  refine q_cN (f := (oXI Sh)) (t := fun e1 => some (.inl e1, D)) (av := [.ref 0, .int v1, .int v2]) (st := []) (z_runV ck_X11_needView rfl ml_X11_352 ci_X11_needView cv_X11_needView (K_0 h0) (ci := 11) rfl rfl (Nat.le_of_ble_eq_true rfl) d_X11_guess_3) (s_X11_needView hst h0 (by omega)) rfl kp_XI (fun _ _ => rfl) ?_
  refine r_aload_n (pc := 6) 0 d_X11_guess_6 rfl rfl ?_
  refine r_iload_n (pc := 7) 1 d_X11_guess_7 rfl rfl ?_
  refine r_iload_n (pc := 8) 2 d_X11_guess_8 rfl rfl ?_
  refine r_iload_n (pc := 9) 3 d_X11_guess_9 rfl rfl ?_
  refine q_cI (f := (oXI Sh)) (av := [.ref 0, .int v1, .int v2, .int v3]) (st := []) (z_runV ck_X11_guessBits rfl ml_X11_359 ci_X11_guessBits cv_X11_guessBits (K_0 h0) (ci := 11) rfl rfl (Nat.le_of_ble_eq_true rfl) d_X11_guess_10) (s_X11_guessBits hst h0 (by omega)) kp_XI (fun q3 _ => ?_)
  exact r_iret (pc := 13) rfl d_X11_guess_13
/-! CoveredSigns.isKnown -/
theorem d_X11_isKnown_0 : decode (yB m_X11_isKnown) 0 = .ok (.aload_n 0, 1) := by decide +kernel
theorem d_X11_isKnown_1 : decode (yB m_X11_isKnown) 1 = .ok (.iload_n 1, 1) := by decide +kernel
theorem d_X11_isKnown_2 : decode (yB m_X11_isKnown) 2 = .ok (.iload_n 2, 1) := by decide +kernel
theorem d_X11_isKnown_3 : decode (yB m_X11_isKnown) 3 = .ok (.iload_n 3, 1) := by decide +kernel
theorem d_X11_isKnown_4 : decode (yB m_X11_isKnown) 4 = .ok (.invokevirtual 359, 3) := by decide +kernel
theorem d_X11_isKnown_7 : decode (yB m_X11_isKnown) 7 = .ok (.iconst 1, 1) := by decide +kernel
theorem d_X11_isKnown_8 : decode (yB m_X11_isKnown) 8 = .ok (.aload_n 0, 1) := by decide +kernel
theorem d_X11_isKnown_9 : decode (yB m_X11_isKnown) 9 = .ok (.getfield 55, 3) := by decide +kernel
theorem d_X11_isKnown_12 : decode (yB m_X11_isKnown) 12 = .ok (.iload_n 1, 1) := by decide +kernel
theorem d_X11_isKnown_13 : decode (yB m_X11_isKnown) 13 = .ok (.invokevirtual 421, 3) := by decide +kernel
theorem d_X11_isKnown_16 : decode (yB m_X11_isKnown) 16 = .ok (.ishl, 1) := by decide +kernel
theorem d_X11_isKnown_17 : decode (yB m_X11_isKnown) 17 = .ok (.if_icmp .ne 7, 3) := by decide +kernel
theorem d_X11_isKnown_20 : decode (yB m_X11_isKnown) 20 = .ok (.iconst 1, 1) := by decide +kernel
theorem d_X11_isKnown_21 : decode (yB m_X11_isKnown) 21 = .ok (.goto 4, 3) := by decide +kernel
theorem d_X11_isKnown_24 : decode (yB m_X11_isKnown) 24 = .ok (.iconst 0, 1) := by decide +kernel
theorem d_X11_isKnown_25 : decode (yB m_X11_isKnown) 25 = .ok (.ireturn, 1) := by decide +kernel
def fn_X11_isKnown (v1 : Int32) (v2 : Int32) (v3 : Int32) (D : zD) : Option (Int32 × zD) := (fn_X11_guessBits v1 v2 v3 D).bind fun q1 => (fn_X9_signOf 57 v1 q1.2).bind fun x2 => (if q1.1 = ((1 : Int32) <<< (x2 &&& 31)) then ((some ((1 : Int32), q1.2))) else ((some ((0 : Int32), q1.2))))
theorem s_X11_isKnown {X : zX} {Sh : zSh} {d : Nat} (hst : (zl X).stackTraces = false) (h0 : zSh0 Sh) (hd : 6 ≤ d) {v1 : Int32} {v2 : Int32} {v3 : Int32} {D : zD} : Sd X m_X11_isKnown d [.ref 0, .int v1, .int v2, .int v3] (Sh, D) ((oI Sh) (fn_X11_isKnown v1 v2 v3 D)) := by
  obtain ⟨d, rfl⟩ : ∃ e, d = e + 1 := ⟨d - 1, by omega⟩
  replace hd : 5 ≤ d := by omega
  refine z_body ck_X11_isKnown rfl (Nat.le_of_ble_eq_true rfl) rfl hst ?_
  rw [fn_X11_isKnown]
  show Rn X m_X11_isKnown (d + 1) 0 [(0, .ref 0), (1, .int v1), (2, .int v2), (3, .int v3)] [] (Sh, D) _
  refine r_aload_n (pc := 0) 0 d_X11_isKnown_0 rfl rfl ?_
  refine r_iload_n (pc := 1) 1 d_X11_isKnown_1 rfl rfl ?_
  refine r_iload_n (pc := 2) 2 d_X11_isKnown_2 rfl rfl ?_
  refine r_iload_n (pc := 3) 3 d_X11_isKnown_3 rfl rfl ?_
  refine q_cI (f := (oI Sh)) (av := [.ref 0, .int v1, .int v2, .int v3]) (st := []) (z_runV ck_X11_guessBits rfl ml_X11_359 ci_X11_guessBits cv_X11_guessBits (K_0 h0) (ci := 11) rfl rfl (Nat.le_of_ble_eq_true rfl) d_X11_isKnown_4) (s_X11_guessBits hst h0 (by omega)) kp_I (fun q1 _ => ?_)
  refine r_iconst (pc := 7) (1 : Int32) d_X11_isKnown_7 rfl ?_
  refine r_aload_n (pc := 8) 0 d_X11_isKnown_8 rfl rfl ?_
  refine r_getR (pc := 9) g_X11_55 (K_0 h0) rfl (R_0_6 h0) d_X11_isKnown_9 ?_
  refine r_iload_n (pc := 12) 1 d_X11_isKnown_12 rfl rfl ?_
  refine q_cP (f := (oI Sh)) (av := [.ref 57, .int v1]) (st := [.int (1 : Int32), .int q1.1]) (z_runV ck_X9_signOf rfl ml_X11_421 ci_X9_signOf cv_X9_signOf (K_57 h0) (ci := 9) rfl rfl (Nat.le_of_ble_eq_true rfl) d_X11_isKnown_13) (s_X9_signOf hst h0 (by omega) (I_57)) kp_I (fun x2 _ => ?_)
  refine r_ishl (pc := 16) d_X11_isKnown_16 ?_
  refine r_icmp_ne (f := (oI Sh)) (pc := 17) 24 d_X11_isKnown_17 (by decide) (fun c3 => ?_) (fun c3 => ?_)
  · refine r_iconst (pc := 24) (0 : Int32) d_X11_isKnown_24 rfl ?_
    exact r_zret (pc := 25) rfl (by decide) d_X11_isKnown_25
  · refine r_iconst (pc := 20) (1 : Int32) d_X11_isKnown_20 rfl ?_
    refine r_goto (pc := 21) 25 d_X11_isKnown_21 (by decide) ?_
    exact r_zret (pc := 25) rfl (by decide) d_X11_isKnown_25
/-! CoveredSigns.known -/
theorem d_X11_known_0 : decode (yB m_X11_known) 0 = .ok (.aload_n 0, 1) := by decide +kernel
theorem d_X11_known_1 : decode (yB m_X11_known) 1 = .ok (.iload_n 1, 1) := by decide +kernel
theorem d_X11_known_2 : decode (yB m_X11_known) 2 = .ok (.invokevirtual 363, 3) := by decide +kernel
theorem d_X11_known_5 : decode (yB m_X11_known) 5 = .ok (.iconst 0, 1) := by decide +kernel
theorem d_X11_known_6 : decode (yB m_X11_known) 6 = .ok (.istore_n 3, 1) := by decide +kernel
theorem d_X11_known_7 : decode (yB m_X11_known) 7 = .ok (.iload_n 3, 1) := by decide +kernel
theorem d_X11_known_8 : decode (yB m_X11_known) 8 = .ok (.bipush 100, 2) := by decide +kernel
theorem d_X11_known_10 : decode (yB m_X11_known) 10 = .ok (.if_icmp .ge 21, 3) := by decide +kernel
theorem d_X11_known_13 : decode (yB m_X11_known) 13 = .ok (.aload_n 0, 1) := by decide +kernel
theorem d_X11_known_14 : decode (yB m_X11_known) 14 = .ok (.iload_n 1, 1) := by decide +kernel
theorem d_X11_known_15 : decode (yB m_X11_known) 15 = .ok (.iload_n 3, 1) := by decide +kernel
theorem d_X11_known_16 : decode (yB m_X11_known) 16 = .ok (.iload_n 2, 1) := by decide +kernel
theorem d_X11_known_17 : decode (yB m_X11_known) 17 = .ok (.invokevirtual 366, 3) := by decide +kernel
theorem d_X11_known_20 : decode (yB m_X11_known) 20 = .ok (.ifCond .eq 5, 3) := by decide +kernel
theorem d_X11_known_23 : decode (yB m_X11_known) 23 = .ok (.iload_n 3, 1) := by decide +kernel
theorem d_X11_known_24 : decode (yB m_X11_known) 24 = .ok (.ireturn, 1) := by decide +kernel
theorem d_X11_known_25 : decode (yB m_X11_known) 25 = .ok (.iinc 3 1, 3) := by decide +kernel
theorem d_X11_known_28 : decode (yB m_X11_known) 28 = .ok (.goto (-21), 3) := by decide +kernel
theorem d_X11_known_31 : decode (yB m_X11_known) 31 = .ok (.iconst (-1), 1) := by decide +kernel
theorem d_X11_known_32 : decode (yB m_X11_known) 32 = .ok (.ireturn, 1) := by decide +kernel
def fn_X11_known_7 (v1 : Int32) (v2 : Int32) : Nat → Int32 → zD → Option ((Nat ⊕ Int32) × zD)
  | 0, _, _ => none
  | n + 1, v3, D => (if (100 : Int32) ≤ v3 then ((some (.inr (-1 : Int32), D))) else ((fn_X11_isKnown v1 v3 v2 D).bind fun q4 => (if q4.1 = 0 then (((fn_X11_known_7 v1 v2 n) (v3 + (1 : Int32)) q4.2)) else ((some (.inr v3, q4.2))))))
def fn_X11_known (v1 : Int32) (v2 : Int32) (D : zD) : Option ((Nat ⊕ Int32) × zD) := (fn_X11_needStanding v1 D).bind fun e1 => if e1 = 0 then ((fn_X11_known_7 v1 v2 zFU (0 : Int32) D)) else some (.inl e1, D)
theorem s_X11_known_7 {X : zX} {Sh : zSh} {d : Nat} (hst : (zl X).stackTraces = false) (h0 : zSh0 Sh) (hd : 8 ≤ d) {v1 : Int32} {v2 : Int32} : ∀ (n : Nat) (v3 : Int32) (D : zD) , Rn X m_X11_known (d + 1) 7 [(0, .ref 0), (1, .int v1), (2, .int v2), (3, .int v3)] [] (Sh, D) ((oXI Sh) (fn_X11_known_7 v1 v2 n v3 D)) := by
  intro n
  induction n with
  | zero => intro v3 D; exact Rn_none rfl
  | succ n hk7 =>
    intro v3 D
    rw [fn_X11_known_7]
    refine r_iload_n (pc := 7) 3 d_X11_known_7 rfl rfl ?_
    refine r_bipush (pc := 8) (100 : Int32) d_X11_known_8 rfl ?_
    refine r_icmp_ge (f := (oXI Sh)) (pc := 10) 31 d_X11_known_10 (by decide) (fun c3 => ?_) (fun c3 => ?_)
    · refine r_iconst (pc := 31) (-1 : Int32) d_X11_known_31 rfl ?_
      exact r_iret (pc := 32) rfl d_X11_known_32
    · refine r_aload_n (pc := 13) 0 d_X11_known_13 rfl rfl ?_
      refine r_iload_n (pc := 14) 1 d_X11_known_14 rfl rfl ?_
      refine r_iload_n (pc := 15) 3 d_X11_known_15 rfl rfl ?_
      refine r_iload_n (pc := 16) 2 d_X11_known_16 rfl rfl ?_
      refine q_cI (f := (oXI Sh)) (av := [.ref 0, .int v1, .int v3, .int v2]) (st := []) (z_runV ck_X11_isKnown rfl ml_X11_366 ci_X11_isKnown cv_X11_isKnown (K_0 h0) (ci := 11) rfl rfl (Nat.le_of_ble_eq_true rfl) d_X11_known_17) (s_X11_isKnown hst h0 (by omega)) kp_XI (fun q4 _ => ?_)
      refine r_if_eq (f := (oXI Sh)) (pc := 20) 25 d_X11_known_20 (by decide) (fun c5 => ?_) (fun c5 => ?_)
      · refine r_iinc (pc := 25) ((v3 + (1 : Int32))) 3 (ls' := [(3, .int (v3 + (1 : Int32))), (0, .ref 0), (1, .int v1), (2, .int v2)]) d_X11_known_25 rfl rfl (Nat.le_of_ble_eq_true rfl) rfl ?_
        refine r_goto (pc := 28) 7 d_X11_known_28 (by decide) ?_
        refine r_pick [1, 2, 3, 0] (ls' := [(0, .ref 0), (1, .int v1), (2, .int v2), (3, .int (v3 + (1 : Int32)))]) rfl ?_
        exact hk7 (v3 + (1 : Int32)) q4.2 
      · refine r_iload_n (pc := 23) 3 d_X11_known_23 rfl rfl ?_
        exact r_iret (pc := 24) rfl d_X11_known_24
theorem s_X11_known {X : zX} {Sh : zSh} {d : Nat} (hst : (zl X).stackTraces = false) (h0 : zSh0 Sh) (hd : 9 ≤ d) {v1 : Int32} {v2 : Int32} {D : zD} : Sd X m_X11_known d [.ref 0, .int v1, .int v2] (Sh, D) ((oXI Sh) (fn_X11_known v1 v2 D)) := by
  obtain ⟨d, rfl⟩ : ∃ e, d = e + 1 := ⟨d - 1, by omega⟩
  replace hd : 8 ≤ d := by omega
  refine z_body ck_X11_known rfl (Nat.le_of_ble_eq_true rfl) rfl hst ?_
  rw [fn_X11_known]
  show Rn X m_X11_known (d + 1) 0 [(0, .ref 0), (1, .int v1), (2, .int v2)] [] (Sh, D) _
  refine r_aload_n (pc := 0) 0 d_X11_known_0 rfl rfl ?_
  refine r_iload_n (pc := 1) 1 d_X11_known_1 rfl rfl ?_
  refine q_cN (f := (oXI Sh)) (t := fun e1 => some (.inl e1, D)) (av := [.ref 0, .int v1]) (st := []) (z_runV ck_X11_needStanding rfl ml_X11_363 ci_X11_needStanding cv_X11_needStanding (K_0 h0) (ci := 11) rfl rfl (Nat.le_of_ble_eq_true rfl) d_X11_known_2) (s_X11_needStanding hst h0 (by omega)) rfl kp_XI (fun _ _ => rfl) ?_
  refine r_iconst (pc := 5) (0 : Int32) d_X11_known_5 rfl ?_
  refine r_istore_n (pc := 6) (ls' := [(3, .int (0 : Int32)), (0, .ref 0), (1, .int v1), (2, .int v2)]) d_X11_known_6 rfl (Nat.le_of_ble_eq_true rfl) rfl ?_
  refine r_pick [1, 2, 3, 0] (ls' := [(0, .ref 0), (1, .int v1), (2, .int v2), (3, .int (0 : Int32))]) rfl ?_
  exact s_X11_known_7 hst h0 hd zFU  (0 : Int32) D
/-! CoveredSigns.all -/
theorem d_X11_all_0 : decode (yB m_X11_all) 0 = .ok (.iconst 0, 1) := by decide +kernel
theorem d_X11_all_1 : decode (yB m_X11_all) 1 = .ok (.istore_n 2, 1) := by decide +kernel
theorem d_X11_all_2 : decode (yB m_X11_all) 2 = .ok (.iload_n 2, 1) := by decide +kernel
theorem d_X11_all_3 : decode (yB m_X11_all) 3 = .ok (.bipush 100, 2) := by decide +kernel
theorem d_X11_all_5 : decode (yB m_X11_all) 5 = .ok (.if_icmp .ge 51, 3) := by decide +kernel
theorem d_X11_all_8 : decode (yB m_X11_all) 8 = .ok (.iconst 0, 1) := by decide +kernel
theorem d_X11_all_9 : decode (yB m_X11_all) 9 = .ok (.istore_n 3, 1) := by decide +kernel
theorem d_X11_all_10 : decode (yB m_X11_all) 10 = .ok (.iload_n 3, 1) := by decide +kernel
theorem d_X11_all_11 : decode (yB m_X11_all) 11 = .ok (.aload_n 0, 1) := by decide +kernel
theorem d_X11_all_12 : decode (yB m_X11_all) 12 = .ok (.getfield 55, 3) := by decide +kernel
theorem d_X11_all_15 : decode (yB m_X11_all) 15 = .ok (.getfield 349, 3) := by decide +kernel
theorem d_X11_all_18 : decode (yB m_X11_all) 18 = .ok (.if_icmp .ge 19, 3) := by decide +kernel
theorem d_X11_all_21 : decode (yB m_X11_all) 21 = .ok (.aload_n 0, 1) := by decide +kernel
theorem d_X11_all_22 : decode (yB m_X11_all) 22 = .ok (.iload_n 3, 1) := by decide +kernel
theorem d_X11_all_23 : decode (yB m_X11_all) 23 = .ok (.iload_n 2, 1) := by decide +kernel
theorem d_X11_all_24 : decode (yB m_X11_all) 24 = .ok (.iload_n 1, 1) := by decide +kernel
theorem d_X11_all_25 : decode (yB m_X11_all) 25 = .ok (.invokevirtual 366, 3) := by decide +kernel
theorem d_X11_all_28 : decode (yB m_X11_all) 28 = .ok (.ifCond .eq 9, 3) := by decide +kernel
theorem d_X11_all_31 : decode (yB m_X11_all) 31 = .ok (.iinc 3 1, 3) := by decide +kernel
theorem d_X11_all_34 : decode (yB m_X11_all) 34 = .ok (.goto (-24), 3) := by decide +kernel
theorem d_X11_all_37 : decode (yB m_X11_all) 37 = .ok (.iload_n 3, 1) := by decide +kernel
theorem d_X11_all_38 : decode (yB m_X11_all) 38 = .ok (.aload_n 0, 1) := by decide +kernel
theorem d_X11_all_39 : decode (yB m_X11_all) 39 = .ok (.getfield 55, 3) := by decide +kernel
theorem d_X11_all_42 : decode (yB m_X11_all) 42 = .ok (.getfield 349, 3) := by decide +kernel
theorem d_X11_all_45 : decode (yB m_X11_all) 45 = .ok (.if_icmp .ne 5, 3) := by decide +kernel
theorem d_X11_all_48 : decode (yB m_X11_all) 48 = .ok (.iload_n 2, 1) := by decide +kernel
theorem d_X11_all_49 : decode (yB m_X11_all) 49 = .ok (.ireturn, 1) := by decide +kernel
theorem d_X11_all_50 : decode (yB m_X11_all) 50 = .ok (.iinc 2 1, 3) := by decide +kernel
theorem d_X11_all_53 : decode (yB m_X11_all) 53 = .ok (.goto (-51), 3) := by decide +kernel
theorem d_X11_all_56 : decode (yB m_X11_all) 56 = .ok (.iconst (-1), 1) := by decide +kernel
theorem d_X11_all_57 : decode (yB m_X11_all) 57 = .ok (.ireturn, 1) := by decide +kernel
def fn_X11_all_37 (v1 : Int32) (k2 : Int32 → zD → Option (Int32 × zD)) (v2 : Int32) (v3 : Int32) (D : zD) : Option (Int32 × zD) := (if v3 = (gI D 57 2) then ((some (v2, D))) else ((k2 (v2 + (1 : Int32)) D)))
def fn_X11_all_10 (v1 : Int32) (k2 : Int32 → zD → Option (Int32 × zD)) : Nat → Int32 → Int32 → zD → Option (Int32 × zD)
  | 0, _, _, _ => none
  | n + 1, v2, v3, D => (if (gI D 57 2) ≤ v3 then ((fn_X11_all_37 v1 k2 v2 v3 D)) else ((fn_X11_isKnown v3 v2 v1 D).bind fun q4 => (if q4.1 = 0 then ((fn_X11_all_37 v1 k2 v2 v3 q4.2)) else (((fn_X11_all_10 v1 k2 n) v2 (v3 + (1 : Int32)) q4.2)))))
def fn_X11_all_2 (v1 : Int32) : Nat → Int32 → zD → Option (Int32 × zD)
  | 0, _, _ => none
  | n + 1, v2, D => (if (100 : Int32) ≤ v2 then ((some ((-1 : Int32), D))) else ((fn_X11_all_10 v1 (fn_X11_all_2 v1 n) zFU v2 (0 : Int32) D)))
def fn_X11_all (v1 : Int32) (D : zD) : Option (Int32 × zD) := (fn_X11_all_2 v1 zFU (0 : Int32) D)
theorem s_X11_all_37 {X : zX} {Sh : zSh} {d : Nat} (hst : (zl X).stackTraces = false) (h0 : zSh0 Sh) (hd : 6 ≤ d) {v1 : Int32} (k2 : Int32 → zD → Option (Int32 × zD)) (hk2 : ∀ (v2 : Int32) (D : zD) , Rn X m_X11_all (d + 1) 2 [(0, .ref 0), (1, .int v1), (2, .int v2)] [] (Sh, D) ((oI Sh) (k2 v2 D))) (v2 : Int32) (v3 : Int32) (D : zD)  : Rn X m_X11_all (d + 1) 37 [(0, .ref 0), (1, .int v1), (2, .int v2), (3, .int v3)] [] (Sh, D) ((oI Sh) (fn_X11_all_37 v1 k2 v2 v3 D)) := by
  rw [fn_X11_all_37]
  refine r_iload_n (pc := 37) 3 d_X11_all_37 rfl rfl ?_
  refine r_aload_n (pc := 38) 0 d_X11_all_38 rfl rfl ?_
  refine r_getR (pc := 39) g_X11_55 (K_0 h0) rfl (R_0_6 h0) d_X11_all_39 ?_
  refine q_gIn (pc := 42) g_X11_349 (K_57 h0) rfl d_X11_all_42 ?_
  refine r_icmp_ne (f := (oI Sh)) (pc := 45) 50 d_X11_all_45 (by decide) (fun c3 => ?_) (fun c3 => ?_)
  · refine r_iinc (pc := 50) ((v2 + (1 : Int32))) 2 (ls' := [(2, .int (v2 + (1 : Int32))), (0, .ref 0), (1, .int v1), (3, .int v3)]) d_X11_all_50 rfl rfl (Nat.le_of_ble_eq_true rfl) rfl ?_
    refine r_goto (pc := 53) 2 d_X11_all_53 (by decide) ?_
    refine r_pick [1, 2, 0] (ls' := [(0, .ref 0), (1, .int v1), (2, .int (v2 + (1 : Int32)))]) rfl ?_
    exact hk2 (v2 + (1 : Int32)) D 
  · refine r_iload_n (pc := 48) 2 d_X11_all_48 rfl rfl ?_
    exact r_iret (pc := 49) rfl d_X11_all_49
theorem s_X11_all_10 {X : zX} {Sh : zSh} {d : Nat} (hst : (zl X).stackTraces = false) (h0 : zSh0 Sh) (hd : 6 ≤ d) {v1 : Int32} (k2 : Int32 → zD → Option (Int32 × zD)) (hk2 : ∀ (v2 : Int32) (D : zD) , Rn X m_X11_all (d + 1) 2 [(0, .ref 0), (1, .int v1), (2, .int v2)] [] (Sh, D) ((oI Sh) (k2 v2 D))) : ∀ (n : Nat) (v2 : Int32) (v3 : Int32) (D : zD) , Rn X m_X11_all (d + 1) 10 [(0, .ref 0), (1, .int v1), (2, .int v2), (3, .int v3)] [] (Sh, D) ((oI Sh) (fn_X11_all_10 v1 k2 n v2 v3 D)) := by
  intro n
  induction n with
  | zero => intro v2 v3 D; exact Rn_none rfl
  | succ n hk10 =>
    intro v2 v3 D
    rw [fn_X11_all_10]
    refine r_iload_n (pc := 10) 3 d_X11_all_10 rfl rfl ?_
    refine r_aload_n (pc := 11) 0 d_X11_all_11 rfl rfl ?_
    refine r_getR (pc := 12) g_X11_55 (K_0 h0) rfl (R_0_6 h0) d_X11_all_12 ?_
    refine q_gIn (pc := 15) g_X11_349 (K_57 h0) rfl d_X11_all_15 ?_
    refine r_icmp_ge (f := (oI Sh)) (pc := 18) 37 d_X11_all_18 (by decide) (fun c2 => ?_) (fun c2 => ?_)
    · refine r_pick [0, 1, 2, 3] (ls' := [(0, .ref 0), (1, .int v1), (2, .int v2), (3, .int v3)]) rfl ?_
      exact s_X11_all_37 hst h0 hd k2 hk2 v2 v3 D
    · refine r_aload_n (pc := 21) 0 d_X11_all_21 rfl rfl ?_
      refine r_iload_n (pc := 22) 3 d_X11_all_22 rfl rfl ?_
      refine r_iload_n (pc := 23) 2 d_X11_all_23 rfl rfl ?_
      refine r_iload_n (pc := 24) 1 d_X11_all_24 rfl rfl ?_
      refine q_cI (f := (oI Sh)) (av := [.ref 0, .int v3, .int v2, .int v1]) (st := []) (z_runV ck_X11_isKnown rfl ml_X11_366 ci_X11_isKnown cv_X11_isKnown (K_0 h0) (ci := 11) rfl rfl (Nat.le_of_ble_eq_true rfl) d_X11_all_25) (s_X11_isKnown hst h0 (by omega)) kp_I (fun q4 _ => ?_)
      refine r_if_eq (f := (oI Sh)) (pc := 28) 37 d_X11_all_28 (by decide) (fun c5 => ?_) (fun c5 => ?_)
      · refine r_pick [0, 1, 2, 3] (ls' := [(0, .ref 0), (1, .int v1), (2, .int v2), (3, .int v3)]) rfl ?_
        exact s_X11_all_37 hst h0 hd k2 hk2 v2 v3 q4.2
      · refine r_iinc (pc := 31) ((v3 + (1 : Int32))) 3 (ls' := [(3, .int (v3 + (1 : Int32))), (0, .ref 0), (1, .int v1), (2, .int v2)]) d_X11_all_31 rfl rfl (Nat.le_of_ble_eq_true rfl) rfl ?_
        refine r_goto (pc := 34) 10 d_X11_all_34 (by decide) ?_
        refine r_pick [1, 2, 3, 0] (ls' := [(0, .ref 0), (1, .int v1), (2, .int v2), (3, .int (v3 + (1 : Int32)))]) rfl ?_
        exact hk10 v2 (v3 + (1 : Int32)) q4.2 
theorem s_X11_all_2 {X : zX} {Sh : zSh} {d : Nat} (hst : (zl X).stackTraces = false) (h0 : zSh0 Sh) (hd : 6 ≤ d) {v1 : Int32} : ∀ (n : Nat) (v2 : Int32) (D : zD) , Rn X m_X11_all (d + 1) 2 [(0, .ref 0), (1, .int v1), (2, .int v2)] [] (Sh, D) ((oI Sh) (fn_X11_all_2 v1 n v2 D)) := by
  intro n
  induction n with
  | zero => intro v2 D; exact Rn_none rfl
  | succ n hk2 =>
    intro v2 D
    rw [fn_X11_all_2]
    refine r_iload_n (pc := 2) 2 d_X11_all_2 rfl rfl ?_
    refine r_bipush (pc := 3) (100 : Int32) d_X11_all_3 rfl ?_
    refine r_icmp_ge (f := (oI Sh)) (pc := 5) 56 d_X11_all_5 (by decide) (fun c1 => ?_) (fun c1 => ?_)
    · refine r_iconst (pc := 56) (-1 : Int32) d_X11_all_56 rfl ?_
      exact r_iret (pc := 57) rfl d_X11_all_57
    · refine r_iconst (pc := 8) (0 : Int32) d_X11_all_8 rfl ?_
      refine r_istore_n (pc := 9) (ls' := [(3, .int (0 : Int32)), (0, .ref 0), (1, .int v1), (2, .int v2)]) d_X11_all_9 rfl (Nat.le_of_ble_eq_true rfl) rfl ?_
      refine r_pick [1, 2, 3, 0] (ls' := [(0, .ref 0), (1, .int v1), (2, .int v2), (3, .int (0 : Int32))]) rfl ?_
      exact s_X11_all_10 hst h0 hd (fn_X11_all_2 v1 n) hk2 zFU  v2 (0 : Int32) D
theorem s_X11_all {X : zX} {Sh : zSh} {d : Nat} (hst : (zl X).stackTraces = false) (h0 : zSh0 Sh) (hd : 7 ≤ d) {v1 : Int32} {D : zD} : Sd X m_X11_all d [.ref 0, .int v1] (Sh, D) ((oI Sh) (fn_X11_all v1 D)) := by
  obtain ⟨d, rfl⟩ : ∃ e, d = e + 1 := ⟨d - 1, by omega⟩
  replace hd : 6 ≤ d := by omega
  refine z_body ck_X11_all rfl (Nat.le_of_ble_eq_true rfl) rfl hst ?_
  rw [fn_X11_all]
  show Rn X m_X11_all (d + 1) 0 [(0, .ref 0), (1, .int v1)] [] (Sh, D) _
  refine r_iconst (pc := 0) (0 : Int32) d_X11_all_0 rfl ?_
  refine r_istore_n (pc := 1) (ls' := [(2, .int (0 : Int32)), (0, .ref 0), (1, .int v1)]) d_X11_all_1 rfl (Nat.le_of_ble_eq_true rfl) rfl ?_
  refine r_pick [1, 2, 0] (ls' := [(0, .ref 0), (1, .int v1), (2, .int (0 : Int32))]) rfl ?_
  exact s_X11_all_2 hst h0 hd zFU  (0 : Int32) D
/-! CoveredSigns.standingSpells -/
theorem d_X11_standingSpells_0 : decode (yB m_X11_standingSpells) 0 = .ok (.iconst 0, 1) := by decide +kernel
theorem d_X11_standingSpells_1 : decode (yB m_X11_standingSpells) 1 = .ok (.istore_n 2, 1) := by decide +kernel
theorem d_X11_standingSpells_2 : decode (yB m_X11_standingSpells) 2 = .ok (.iload_n 2, 1) := by decide +kernel
theorem d_X11_standingSpells_3 : decode (yB m_X11_standingSpells) 3 = .ok (.aload_n 0, 1) := by decide +kernel
theorem d_X11_standingSpells_4 : decode (yB m_X11_standingSpells) 4 = .ok (.getfield 55, 3) := by decide +kernel
theorem d_X11_standingSpells_7 : decode (yB m_X11_standingSpells) 7 = .ok (.getfield 349, 3) := by decide +kernel
theorem d_X11_standingSpells_10 : decode (yB m_X11_standingSpells) 10 = .ok (.if_icmp .ge 31, 3) := by decide +kernel
theorem d_X11_standingSpells_13 : decode (yB m_X11_standingSpells) 13 = .ok (.aload_n 0, 1) := by decide +kernel
theorem d_X11_standingSpells_14 : decode (yB m_X11_standingSpells) 14 = .ok (.getfield 25, 3) := by decide +kernel
theorem d_X11_standingSpells_17 : decode (yB m_X11_standingSpells) 17 = .ok (.iload_n 1, 1) := by decide +kernel
theorem d_X11_standingSpells_18 : decode (yB m_X11_standingSpells) 18 = .ok (.iload_n 2, 1) := by decide +kernel
theorem d_X11_standingSpells_19 : decode (yB m_X11_standingSpells) 19 = .ok (.invokevirtual 222, 3) := by decide +kernel
theorem d_X11_standingSpells_22 : decode (yB m_X11_standingSpells) 22 = .ok (.aload_n 0, 1) := by decide +kernel
theorem d_X11_standingSpells_23 : decode (yB m_X11_standingSpells) 23 = .ok (.getfield 55, 3) := by decide +kernel
theorem d_X11_standingSpells_26 : decode (yB m_X11_standingSpells) 26 = .ok (.iload_n 2, 1) := by decide +kernel
theorem d_X11_standingSpells_27 : decode (yB m_X11_standingSpells) 27 = .ok (.invokevirtual 421, 3) := by decide +kernel
theorem d_X11_standingSpells_30 : decode (yB m_X11_standingSpells) 30 = .ok (.if_icmp .eq 5, 3) := by decide +kernel
theorem d_X11_standingSpells_33 : decode (yB m_X11_standingSpells) 33 = .ok (.iconst 0, 1) := by decide +kernel
theorem d_X11_standingSpells_34 : decode (yB m_X11_standingSpells) 34 = .ok (.ireturn, 1) := by decide +kernel
theorem d_X11_standingSpells_35 : decode (yB m_X11_standingSpells) 35 = .ok (.iinc 2 1, 3) := by decide +kernel
theorem d_X11_standingSpells_38 : decode (yB m_X11_standingSpells) 38 = .ok (.goto (-36), 3) := by decide +kernel
theorem d_X11_standingSpells_41 : decode (yB m_X11_standingSpells) 41 = .ok (.iconst 1, 1) := by decide +kernel
theorem d_X11_standingSpells_42 : decode (yB m_X11_standingSpells) 42 = .ok (.ireturn, 1) := by decide +kernel
def fn_X11_standingSpells_2 (v1 : Int32) (D : zD) : Nat → Int32 → Option Int32
  | 0, _ => none
  | n + 1, v2 => (if (gI D 57 2) ≤ v2 then ((some (1 : Int32))) else ((fn_X0_letterOf 3 v1 v2 D).bind fun x2 => (fn_X9_signOf 57 v2 D).bind fun x3 => (if x2 = x3 then (((fn_X11_standingSpells_2 v1 D n) (v2 + (1 : Int32)))) else ((some (0 : Int32))))))
def fn_X11_standingSpells (v1 : Int32) (D : zD) : Option Int32 := (fn_X11_standingSpells_2 v1 D zFU (0 : Int32))
theorem s_X11_standingSpells_2 {X : zX} {Sh : zSh} {d : Nat} (hst : (zl X).stackTraces = false) (h0 : zSh0 Sh) (hd : 2 ≤ d) {v1 : Int32} (D : zD) : ∀ (n : Nat) (v2 : Int32) , Rn X m_X11_standingSpells (d + 1) 2 [(0, .ref 0), (1, .int v1), (2, .int v2)] [] (Sh, D) ((oP Sh D) (fn_X11_standingSpells_2 v1 D n v2)) := by
  intro n
  induction n with
  | zero => intro v2; exact Rn_none rfl
  | succ n hk2 =>
    intro v2
    rw [fn_X11_standingSpells_2]
    refine r_iload_n (pc := 2) 2 d_X11_standingSpells_2 rfl rfl ?_
    refine r_aload_n (pc := 3) 0 d_X11_standingSpells_3 rfl rfl ?_
    refine r_getR (pc := 4) g_X11_55 (K_0 h0) rfl (R_0_6 h0) d_X11_standingSpells_4 ?_
    refine q_gIn (pc := 7) g_X11_349 (K_57 h0) rfl d_X11_standingSpells_7 ?_
    refine r_icmp_ge (f := (oP Sh D)) (pc := 10) 41 d_X11_standingSpells_10 (by decide) (fun c1 => ?_) (fun c1 => ?_)
    · refine r_iconst (pc := 41) (1 : Int32) d_X11_standingSpells_41 rfl ?_
      exact r_zret (pc := 42) rfl (by decide) d_X11_standingSpells_42
    · refine r_aload_n (pc := 13) 0 d_X11_standingSpells_13 rfl rfl ?_
      refine r_getR (pc := 14) g_X11_25 (K_0 h0) rfl (R_0_2 h0) d_X11_standingSpells_14 ?_
      refine r_iload_n (pc := 17) 1 d_X11_standingSpells_17 rfl rfl ?_
      refine r_iload_n (pc := 18) 2 d_X11_standingSpells_18 rfl rfl ?_
      refine q_cP (f := (oP Sh D)) (av := [.ref 3, .int v1, .int v2]) (st := []) (z_runV ck_X0_letterOf rfl ml_X11_222 ci_X0_letterOf cv_X0_letterOf (K_3 h0) (ci := 0) rfl rfl (Nat.le_of_ble_eq_true rfl) d_X11_standingSpells_19) (s_X0_letterOf hst h0 (by omega) (I_3)) kp_P (fun x2 _ => ?_)
      refine r_aload_n (pc := 22) 0 d_X11_standingSpells_22 rfl rfl ?_
      refine r_getR (pc := 23) g_X11_55 (K_0 h0) rfl (R_0_6 h0) d_X11_standingSpells_23 ?_
      refine r_iload_n (pc := 26) 2 d_X11_standingSpells_26 rfl rfl ?_
      refine q_cP (f := (oP Sh D)) (av := [.ref 57, .int v2]) (st := [.int x2]) (z_runV ck_X9_signOf rfl ml_X11_421 ci_X9_signOf cv_X9_signOf (K_57 h0) (ci := 9) rfl rfl (Nat.le_of_ble_eq_true rfl) d_X11_standingSpells_27) (s_X9_signOf hst h0 (by omega) (I_57)) kp_P (fun x3 _ => ?_)
      refine r_icmp_eq (f := (oP Sh D)) (pc := 30) 35 d_X11_standingSpells_30 (by decide) (fun c4 => ?_) (fun c4 => ?_)
      · refine r_iinc (pc := 35) ((v2 + (1 : Int32))) 2 (ls' := [(2, .int (v2 + (1 : Int32))), (0, .ref 0), (1, .int v1)]) d_X11_standingSpells_35 rfl rfl (Nat.le_of_ble_eq_true rfl) rfl ?_
        refine r_goto (pc := 38) 2 d_X11_standingSpells_38 (by decide) ?_
        refine r_pick [1, 2, 0] (ls' := [(0, .ref 0), (1, .int v1), (2, .int (v2 + (1 : Int32)))]) rfl ?_
        exact hk2 (v2 + (1 : Int32)) 
      · refine r_iconst (pc := 33) (0 : Int32) d_X11_standingSpells_33 rfl ?_
        exact r_zret (pc := 34) rfl (by decide) d_X11_standingSpells_34
theorem s_X11_standingSpells {X : zX} {Sh : zSh} {d : Nat} (hst : (zl X).stackTraces = false) (h0 : zSh0 Sh) (hd : 3 ≤ d) {v1 : Int32} {D : zD} : Sd X m_X11_standingSpells d [.ref 0, .int v1] (Sh, D) ((oP Sh D) (fn_X11_standingSpells v1 D)) := by
  obtain ⟨d, rfl⟩ : ∃ e, d = e + 1 := ⟨d - 1, by omega⟩
  replace hd : 2 ≤ d := by omega
  refine z_body ck_X11_standingSpells rfl (Nat.le_of_ble_eq_true rfl) rfl hst ?_
  rw [fn_X11_standingSpells]
  show Rn X m_X11_standingSpells (d + 1) 0 [(0, .ref 0), (1, .int v1)] [] (Sh, D) _
  refine r_iconst (pc := 0) (0 : Int32) d_X11_standingSpells_0 rfl ?_
  refine r_istore_n (pc := 1) (ls' := [(2, .int (0 : Int32)), (0, .ref 0), (1, .int v1)]) d_X11_standingSpells_1 rfl (Nat.le_of_ble_eq_true rfl) rfl ?_
  refine r_pick [1, 2, 0] (ls' := [(0, .ref 0), (1, .int v1), (2, .int (0 : Int32))]) rfl ?_
  exact s_X11_standingSpells_2 hst h0 hd D zFU  (0 : Int32)
/-! CoveredSigns.standingIsTold -/
theorem d_X11_standingIsTold_0 : decode (yB m_X11_standingIsTold) 0 = .ok (.iconst 0, 1) := by decide +kernel
theorem d_X11_standingIsTold_1 : decode (yB m_X11_standingIsTold) 1 = .ok (.istore_n 1, 1) := by decide +kernel
theorem d_X11_standingIsTold_2 : decode (yB m_X11_standingIsTold) 2 = .ok (.iload_n 1, 1) := by decide +kernel
theorem d_X11_standingIsTold_3 : decode (yB m_X11_standingIsTold) 3 = .ok (.aload_n 0, 1) := by decide +kernel
theorem d_X11_standingIsTold_4 : decode (yB m_X11_standingIsTold) 4 = .ok (.getfield 25, 3) := by decide +kernel
theorem d_X11_standingIsTold_7 : decode (yB m_X11_standingIsTold) 7 = .ok (.getfield 192, 3) := by decide +kernel
theorem d_X11_standingIsTold_10 : decode (yB m_X11_standingIsTold) 10 = .ok (.if_icmp .ge 37, 3) := by decide +kernel
theorem d_X11_standingIsTold_13 : decode (yB m_X11_standingIsTold) 13 = .ok (.aload_n 0, 1) := by decide +kernel
theorem d_X11_standingIsTold_14 : decode (yB m_X11_standingIsTold) 14 = .ok (.getfield 25, 3) := by decide +kernel
theorem d_X11_standingIsTold_17 : decode (yB m_X11_standingIsTold) 17 = .ok (.iload_n 1, 1) := by decide +kernel
theorem d_X11_standingIsTold_18 : decode (yB m_X11_standingIsTold) 18 = .ok (.invokevirtual 279, 3) := by decide +kernel
theorem d_X11_standingIsTold_21 : decode (yB m_X11_standingIsTold) 21 = .ok (.aload_n 0, 1) := by decide +kernel
theorem d_X11_standingIsTold_22 : decode (yB m_X11_standingIsTold) 22 = .ok (.getfield 55, 3) := by decide +kernel
theorem d_X11_standingIsTold_25 : decode (yB m_X11_standingIsTold) 25 = .ok (.getfield 349, 3) := by decide +kernel
theorem d_X11_standingIsTold_28 : decode (yB m_X11_standingIsTold) 28 = .ok (.if_icmp .ne 13, 3) := by decide +kernel
theorem d_X11_standingIsTold_31 : decode (yB m_X11_standingIsTold) 31 = .ok (.aload_n 0, 1) := by decide +kernel
theorem d_X11_standingIsTold_32 : decode (yB m_X11_standingIsTold) 32 = .ok (.iload_n 1, 1) := by decide +kernel
theorem d_X11_standingIsTold_33 : decode (yB m_X11_standingIsTold) 33 = .ok (.invokevirtual 424, 3) := by decide +kernel
theorem d_X11_standingIsTold_36 : decode (yB m_X11_standingIsTold) 36 = .ok (.ifCond .eq 5, 3) := by decide +kernel
theorem d_X11_standingIsTold_39 : decode (yB m_X11_standingIsTold) 39 = .ok (.iconst 1, 1) := by decide +kernel
theorem d_X11_standingIsTold_40 : decode (yB m_X11_standingIsTold) 40 = .ok (.ireturn, 1) := by decide +kernel
theorem d_X11_standingIsTold_41 : decode (yB m_X11_standingIsTold) 41 = .ok (.iinc 1 1, 3) := by decide +kernel
theorem d_X11_standingIsTold_44 : decode (yB m_X11_standingIsTold) 44 = .ok (.goto (-42), 3) := by decide +kernel
theorem d_X11_standingIsTold_47 : decode (yB m_X11_standingIsTold) 47 = .ok (.iconst 0, 1) := by decide +kernel
theorem d_X11_standingIsTold_48 : decode (yB m_X11_standingIsTold) 48 = .ok (.ireturn, 1) := by decide +kernel
def fn_X11_standingIsTold_2 (D : zD) : Nat → Int32 → Option Int32
  | 0, _ => none
  | n + 1, v1 => (if (gI D 3 3) ≤ v1 then ((some (0 : Int32))) else ((fn_X0_lengthOf 3 v1 D).bind fun x2 => (if x2 = (gI D 57 2) then ((fn_X11_standingSpells v1 D).bind fun x4 => (if x4 = 0 then (((fn_X11_standingIsTold_2 D n) (v1 + (1 : Int32)))) else ((some (1 : Int32))))) else (((fn_X11_standingIsTold_2 D n) (v1 + (1 : Int32)))))))
def fn_X11_standingIsTold (D : zD) : Option Int32 := (fn_X11_standingIsTold_2 D zFU (0 : Int32))
theorem s_X11_standingIsTold_2 {X : zX} {Sh : zSh} {d : Nat} (hst : (zl X).stackTraces = false) (h0 : zSh0 Sh) (hd : 3 ≤ d) (D : zD) : ∀ (n : Nat) (v1 : Int32) , Rn X m_X11_standingIsTold (d + 1) 2 [(0, .ref 0), (1, .int v1)] [] (Sh, D) ((oP Sh D) (fn_X11_standingIsTold_2 D n v1)) := by
  intro n
  induction n with
  | zero => intro v1; exact Rn_none rfl
  | succ n hk2 =>
    intro v1
    rw [fn_X11_standingIsTold_2]
    refine r_iload_n (pc := 2) 1 d_X11_standingIsTold_2 rfl rfl ?_
    refine r_aload_n (pc := 3) 0 d_X11_standingIsTold_3 rfl rfl ?_
    refine r_getR (pc := 4) g_X11_25 (K_0 h0) rfl (R_0_2 h0) d_X11_standingIsTold_4 ?_
    refine q_gIn (pc := 7) g_X11_192 (K_3 h0) rfl d_X11_standingIsTold_7 ?_
    refine r_icmp_ge (f := (oP Sh D)) (pc := 10) 47 d_X11_standingIsTold_10 (by decide) (fun c1 => ?_) (fun c1 => ?_)
    · refine r_iconst (pc := 47) (0 : Int32) d_X11_standingIsTold_47 rfl ?_
      exact r_zret (pc := 48) rfl (by decide) d_X11_standingIsTold_48
    · refine r_aload_n (pc := 13) 0 d_X11_standingIsTold_13 rfl rfl ?_
      refine r_getR (pc := 14) g_X11_25 (K_0 h0) rfl (R_0_2 h0) d_X11_standingIsTold_14 ?_
      refine r_iload_n (pc := 17) 1 d_X11_standingIsTold_17 rfl rfl ?_
      refine q_cP (f := (oP Sh D)) (av := [.ref 3, .int v1]) (st := []) (z_runV ck_X0_lengthOf rfl ml_X11_279 ci_X0_lengthOf cv_X0_lengthOf (K_3 h0) (ci := 0) rfl rfl (Nat.le_of_ble_eq_true rfl) d_X11_standingIsTold_18) (s_X0_lengthOf hst h0 (by omega) (I_3)) kp_P (fun x2 _ => ?_)
      refine r_aload_n (pc := 21) 0 d_X11_standingIsTold_21 rfl rfl ?_
      refine r_getR (pc := 22) g_X11_55 (K_0 h0) rfl (R_0_6 h0) d_X11_standingIsTold_22 ?_
      refine q_gIn (pc := 25) g_X11_349 (K_57 h0) rfl d_X11_standingIsTold_25 ?_
      refine r_icmp_ne (f := (oP Sh D)) (pc := 28) 41 d_X11_standingIsTold_28 (by decide) (fun c3 => ?_) (fun c3 => ?_)
      · refine r_iinc (pc := 41) ((v1 + (1 : Int32))) 1 (ls' := [(1, .int (v1 + (1 : Int32))), (0, .ref 0)]) d_X11_standingIsTold_41 rfl rfl (Nat.le_of_ble_eq_true rfl) rfl ?_
        refine r_goto (pc := 44) 2 d_X11_standingIsTold_44 (by decide) ?_
        refine r_pick [1, 0] (ls' := [(0, .ref 0), (1, .int (v1 + (1 : Int32)))]) rfl ?_
        exact hk2 (v1 + (1 : Int32)) 
      · refine r_aload_n (pc := 31) 0 d_X11_standingIsTold_31 rfl rfl ?_
        refine r_iload_n (pc := 32) 1 d_X11_standingIsTold_32 rfl rfl ?_
        refine q_cP (f := (oP Sh D)) (av := [.ref 0, .int v1]) (st := []) (z_runV ck_X11_standingSpells rfl ml_X11_424 ci_X11_standingSpells cv_X11_standingSpells (K_0 h0) (ci := 11) rfl rfl (Nat.le_of_ble_eq_true rfl) d_X11_standingIsTold_33) (s_X11_standingSpells hst h0 (by omega)) kp_P (fun x4 _ => ?_)
        refine r_if_eq (f := (oP Sh D)) (pc := 36) 41 d_X11_standingIsTold_36 (by decide) (fun c5 => ?_) (fun c5 => ?_)
        · refine r_iinc (pc := 41) ((v1 + (1 : Int32))) 1 (ls' := [(1, .int (v1 + (1 : Int32))), (0, .ref 0)]) d_X11_standingIsTold_41 rfl rfl (Nat.le_of_ble_eq_true rfl) rfl ?_
          refine r_goto (pc := 44) 2 d_X11_standingIsTold_44 (by decide) ?_
          refine r_pick [1, 0] (ls' := [(0, .ref 0), (1, .int (v1 + (1 : Int32)))]) rfl ?_
          exact hk2 (v1 + (1 : Int32)) 
        · refine r_iconst (pc := 39) (1 : Int32) d_X11_standingIsTold_39 rfl ?_
          exact r_zret (pc := 40) rfl (by decide) d_X11_standingIsTold_40
theorem s_X11_standingIsTold {X : zX} {Sh : zSh} {d : Nat} (hst : (zl X).stackTraces = false) (h0 : zSh0 Sh) (hd : 4 ≤ d)  {D : zD} : Sd X m_X11_standingIsTold d [.ref 0] (Sh, D) ((oP Sh D) (fn_X11_standingIsTold D)) := by
  obtain ⟨d, rfl⟩ : ∃ e, d = e + 1 := ⟨d - 1, by omega⟩
  replace hd : 3 ≤ d := by omega
  refine z_body ck_X11_standingIsTold rfl (Nat.le_of_ble_eq_true rfl) rfl hst ?_
  rw [fn_X11_standingIsTold]
  show Rn X m_X11_standingIsTold (d + 1) 0 [(0, .ref 0)] [] (Sh, D) _
  refine r_iconst (pc := 0) (0 : Int32) d_X11_standingIsTold_0 rfl ?_
  refine r_istore_n (pc := 1) (ls' := [(1, .int (0 : Int32)), (0, .ref 0)]) d_X11_standingIsTold_1 rfl (Nat.le_of_ble_eq_true rfl) rfl ?_
  refine r_pick [1, 0] (ls' := [(0, .ref 0), (1, .int (0 : Int32))]) rfl ?_
  exact s_X11_standingIsTold_2 hst h0 hd D zFU  (0 : Int32)
/-! CoveredSigns.standingMayBe -/
theorem d_X11_standingMayBe_0 : decode (yB m_X11_standingMayBe) 0 = .ok (.iconst 0, 1) := by decide +kernel
theorem d_X11_standingMayBe_1 : decode (yB m_X11_standingMayBe) 1 = .ok (.istore 4, 2) := by decide +kernel
theorem d_X11_standingMayBe_3 : decode (yB m_X11_standingMayBe) 3 = .ok (.iload 4, 2) := by decide +kernel
theorem d_X11_standingMayBe_5 : decode (yB m_X11_standingMayBe) 5 = .ok (.aload_n 0, 1) := by decide +kernel
theorem d_X11_standingMayBe_6 : decode (yB m_X11_standingMayBe) 6 = .ok (.getfield 55, 3) := by decide +kernel
theorem d_X11_standingMayBe_9 : decode (yB m_X11_standingMayBe) 9 = .ok (.getfield 349, 3) := by decide +kernel
theorem d_X11_standingMayBe_12 : decode (yB m_X11_standingMayBe) 12 = .ok (.if_icmp .ge 35, 3) := by decide +kernel
theorem d_X11_standingMayBe_15 : decode (yB m_X11_standingMayBe) 15 = .ok (.aload_n 0, 1) := by decide +kernel
theorem d_X11_standingMayBe_16 : decode (yB m_X11_standingMayBe) 16 = .ok (.iload 4, 2) := by decide +kernel
theorem d_X11_standingMayBe_18 : decode (yB m_X11_standingMayBe) 18 = .ok (.iload_n 2, 1) := by decide +kernel
theorem d_X11_standingMayBe_19 : decode (yB m_X11_standingMayBe) 19 = .ok (.iload_n 3, 1) := by decide +kernel
theorem d_X11_standingMayBe_20 : decode (yB m_X11_standingMayBe) 20 = .ok (.invokevirtual 359, 3) := by decide +kernel
theorem d_X11_standingMayBe_23 : decode (yB m_X11_standingMayBe) 23 = .ok (.aload_n 0, 1) := by decide +kernel
theorem d_X11_standingMayBe_24 : decode (yB m_X11_standingMayBe) 24 = .ok (.getfield 25, 3) := by decide +kernel
theorem d_X11_standingMayBe_27 : decode (yB m_X11_standingMayBe) 27 = .ok (.iload_n 1, 1) := by decide +kernel
theorem d_X11_standingMayBe_28 : decode (yB m_X11_standingMayBe) 28 = .ok (.iload 4, 2) := by decide +kernel
theorem d_X11_standingMayBe_30 : decode (yB m_X11_standingMayBe) 30 = .ok (.invokevirtual 222, 3) := by decide +kernel
theorem d_X11_standingMayBe_33 : decode (yB m_X11_standingMayBe) 33 = .ok (.ishr, 1) := by decide +kernel
theorem d_X11_standingMayBe_34 : decode (yB m_X11_standingMayBe) 34 = .ok (.iconst 1, 1) := by decide +kernel
theorem d_X11_standingMayBe_35 : decode (yB m_X11_standingMayBe) 35 = .ok (.iand, 1) := by decide +kernel
theorem d_X11_standingMayBe_36 : decode (yB m_X11_standingMayBe) 36 = .ok (.ifCond .ne 5, 3) := by decide +kernel
theorem d_X11_standingMayBe_39 : decode (yB m_X11_standingMayBe) 39 = .ok (.iconst 0, 1) := by decide +kernel
theorem d_X11_standingMayBe_40 : decode (yB m_X11_standingMayBe) 40 = .ok (.ireturn, 1) := by decide +kernel
theorem d_X11_standingMayBe_41 : decode (yB m_X11_standingMayBe) 41 = .ok (.iinc 4 1, 3) := by decide +kernel
theorem d_X11_standingMayBe_44 : decode (yB m_X11_standingMayBe) 44 = .ok (.goto (-41), 3) := by decide +kernel
theorem d_X11_standingMayBe_47 : decode (yB m_X11_standingMayBe) 47 = .ok (.iconst 1, 1) := by decide +kernel
theorem d_X11_standingMayBe_48 : decode (yB m_X11_standingMayBe) 48 = .ok (.ireturn, 1) := by decide +kernel
def fn_X11_standingMayBe_3 (v1 : Int32) (v2 : Int32) (v3 : Int32) : Nat → Int32 → zD → Option (Int32 × zD)
  | 0, _, _ => none
  | n + 1, v4, D => (if (gI D 57 2) ≤ v4 then ((some ((1 : Int32), D))) else ((fn_X11_guessBits v4 v2 v3 D).bind fun q2 => (fn_X0_letterOf 3 v1 v4 q2.2).bind fun x3 => (if ((q2.1 >>> (x3 &&& 31)) &&& (1 : Int32)) = 0 then ((some ((0 : Int32), q2.2))) else (((fn_X11_standingMayBe_3 v1 v2 v3 n) (v4 + (1 : Int32)) q2.2)))))
def fn_X11_standingMayBe (v1 : Int32) (v2 : Int32) (v3 : Int32) (D : zD) : Option (Int32 × zD) := (fn_X11_standingMayBe_3 v1 v2 v3 zFU (0 : Int32) D)
theorem s_X11_standingMayBe_3 {X : zX} {Sh : zSh} {d : Nat} (hst : (zl X).stackTraces = false) (h0 : zSh0 Sh) (hd : 5 ≤ d) {v1 : Int32} {v2 : Int32} {v3 : Int32} : ∀ (n : Nat) (v4 : Int32) (D : zD) , Rn X m_X11_standingMayBe (d + 1) 3 [(0, .ref 0), (1, .int v1), (2, .int v2), (3, .int v3), (4, .int v4)] [] (Sh, D) ((oI Sh) (fn_X11_standingMayBe_3 v1 v2 v3 n v4 D)) := by
  intro n
  induction n with
  | zero => intro v4 D; exact Rn_none rfl
  | succ n hk3 =>
    intro v4 D
    rw [fn_X11_standingMayBe_3]
    refine r_iload (pc := 3) 4 d_X11_standingMayBe_3 rfl ?_
    refine r_aload_n (pc := 5) 0 d_X11_standingMayBe_5 rfl rfl ?_
    refine r_getR (pc := 6) g_X11_55 (K_0 h0) rfl (R_0_6 h0) d_X11_standingMayBe_6 ?_
    refine q_gIn (pc := 9) g_X11_349 (K_57 h0) rfl d_X11_standingMayBe_9 ?_
    refine r_icmp_ge (f := (oI Sh)) (pc := 12) 47 d_X11_standingMayBe_12 (by decide) (fun c1 => ?_) (fun c1 => ?_)
    · refine r_iconst (pc := 47) (1 : Int32) d_X11_standingMayBe_47 rfl ?_
      exact r_zret (pc := 48) rfl (by decide) d_X11_standingMayBe_48
    · refine r_aload_n (pc := 15) 0 d_X11_standingMayBe_15 rfl rfl ?_
      refine r_iload (pc := 16) 4 d_X11_standingMayBe_16 rfl ?_
      refine r_iload_n (pc := 18) 2 d_X11_standingMayBe_18 rfl rfl ?_
      refine r_iload_n (pc := 19) 3 d_X11_standingMayBe_19 rfl rfl ?_
      refine q_cI (f := (oI Sh)) (av := [.ref 0, .int v4, .int v2, .int v3]) (st := []) (z_runV ck_X11_guessBits rfl ml_X11_359 ci_X11_guessBits cv_X11_guessBits (K_0 h0) (ci := 11) rfl rfl (Nat.le_of_ble_eq_true rfl) d_X11_standingMayBe_20) (s_X11_guessBits hst h0 (by omega)) kp_I (fun q2 _ => ?_)
      refine r_aload_n (pc := 23) 0 d_X11_standingMayBe_23 rfl rfl ?_
      refine r_getR (pc := 24) g_X11_25 (K_0 h0) rfl (R_0_2 h0) d_X11_standingMayBe_24 ?_
      refine r_iload_n (pc := 27) 1 d_X11_standingMayBe_27 rfl rfl ?_
      refine r_iload (pc := 28) 4 d_X11_standingMayBe_28 rfl ?_
      refine q_cP (f := (oI Sh)) (av := [.ref 3, .int v1, .int v4]) (st := [.int q2.1]) (z_runV ck_X0_letterOf rfl ml_X11_222 ci_X0_letterOf cv_X0_letterOf (K_3 h0) (ci := 0) rfl rfl (Nat.le_of_ble_eq_true rfl) d_X11_standingMayBe_30) (s_X0_letterOf hst h0 (by omega) (I_3)) kp_I (fun x3 _ => ?_)
      refine r_ishr (pc := 33) d_X11_standingMayBe_33 ?_
      refine r_iconst (pc := 34) (1 : Int32) d_X11_standingMayBe_34 rfl ?_
      refine r_iand (pc := 35) d_X11_standingMayBe_35 ?_
      refine r_if_ne (f := (oI Sh)) (pc := 36) 41 d_X11_standingMayBe_36 (by decide) (fun c4 => ?_) (fun c4 => ?_)
      · refine r_iinc (pc := 41) ((v4 + (1 : Int32))) 4 (ls' := [(4, .int (v4 + (1 : Int32))), (0, .ref 0), (1, .int v1), (2, .int v2), (3, .int v3)]) d_X11_standingMayBe_41 rfl rfl (Nat.le_of_ble_eq_true rfl) rfl ?_
        refine r_goto (pc := 44) 3 d_X11_standingMayBe_44 (by decide) ?_
        refine r_pick [1, 2, 3, 4, 0] (ls' := [(0, .ref 0), (1, .int v1), (2, .int v2), (3, .int v3), (4, .int (v4 + (1 : Int32)))]) rfl ?_
        exact hk3 (v4 + (1 : Int32)) q2.2 
      · refine r_iconst (pc := 39) (0 : Int32) d_X11_standingMayBe_39 rfl ?_
        exact r_zret (pc := 40) rfl (by decide) d_X11_standingMayBe_40
theorem s_X11_standingMayBe {X : zX} {Sh : zSh} {d : Nat} (hst : (zl X).stackTraces = false) (h0 : zSh0 Sh) (hd : 6 ≤ d) {v1 : Int32} {v2 : Int32} {v3 : Int32} {D : zD} : Sd X m_X11_standingMayBe d [.ref 0, .int v1, .int v2, .int v3] (Sh, D) ((oI Sh) (fn_X11_standingMayBe v1 v2 v3 D)) := by
  obtain ⟨d, rfl⟩ : ∃ e, d = e + 1 := ⟨d - 1, by omega⟩
  replace hd : 5 ≤ d := by omega
  refine z_body ck_X11_standingMayBe rfl (Nat.le_of_ble_eq_true rfl) rfl hst ?_
  rw [fn_X11_standingMayBe]
  show Rn X m_X11_standingMayBe (d + 1) 0 [(0, .ref 0), (1, .int v1), (2, .int v2), (3, .int v3)] [] (Sh, D) _
  refine r_iconst (pc := 0) (0 : Int32) d_X11_standingMayBe_0 rfl ?_
  refine r_istore (pc := 1) (ls' := [(4, .int (0 : Int32)), (0, .ref 0), (1, .int v1), (2, .int v2), (3, .int v3)]) d_X11_standingMayBe_1 (Nat.le_of_ble_eq_true rfl) rfl ?_
  refine r_pick [1, 2, 3, 4, 0] (ls' := [(0, .ref 0), (1, .int v1), (2, .int v2), (3, .int v3), (4, .int (0 : Int32))]) rfl ?_
  exact s_X11_standingMayBe_3 hst h0 hd zFU  (0 : Int32) D
/-! CoveredSigns.wordIsKnown -/
theorem d_X11_wordIsKnown_0 : decode (yB m_X11_wordIsKnown) 0 = .ok (.iconst 0, 1) := by decide +kernel
theorem d_X11_wordIsKnown_1 : decode (yB m_X11_wordIsKnown) 1 = .ok (.istore_n 3, 1) := by decide +kernel
theorem d_X11_wordIsKnown_2 : decode (yB m_X11_wordIsKnown) 2 = .ok (.iload_n 3, 1) := by decide +kernel
theorem d_X11_wordIsKnown_3 : decode (yB m_X11_wordIsKnown) 3 = .ok (.aload_n 0, 1) := by decide +kernel
theorem d_X11_wordIsKnown_4 : decode (yB m_X11_wordIsKnown) 4 = .ok (.getfield 25, 3) := by decide +kernel
theorem d_X11_wordIsKnown_7 : decode (yB m_X11_wordIsKnown) 7 = .ok (.getfield 192, 3) := by decide +kernel
theorem d_X11_wordIsKnown_10 : decode (yB m_X11_wordIsKnown) 10 = .ok (.if_icmp .ge 47, 3) := by decide +kernel
theorem d_X11_wordIsKnown_13 : decode (yB m_X11_wordIsKnown) 13 = .ok (.aload_n 0, 1) := by decide +kernel
theorem d_X11_wordIsKnown_14 : decode (yB m_X11_wordIsKnown) 14 = .ok (.getfield 25, 3) := by decide +kernel
theorem d_X11_wordIsKnown_17 : decode (yB m_X11_wordIsKnown) 17 = .ok (.iload_n 3, 1) := by decide +kernel
theorem d_X11_wordIsKnown_18 : decode (yB m_X11_wordIsKnown) 18 = .ok (.invokevirtual 279, 3) := by decide +kernel
theorem d_X11_wordIsKnown_21 : decode (yB m_X11_wordIsKnown) 21 = .ok (.aload_n 0, 1) := by decide +kernel
theorem d_X11_wordIsKnown_22 : decode (yB m_X11_wordIsKnown) 22 = .ok (.getfield 55, 3) := by decide +kernel
theorem d_X11_wordIsKnown_25 : decode (yB m_X11_wordIsKnown) 25 = .ok (.getfield 349, 3) := by decide +kernel
theorem d_X11_wordIsKnown_28 : decode (yB m_X11_wordIsKnown) 28 = .ok (.if_icmp .ne 23, 3) := by decide +kernel
theorem d_X11_wordIsKnown_31 : decode (yB m_X11_wordIsKnown) 31 = .ok (.aload_n 0, 1) := by decide +kernel
theorem d_X11_wordIsKnown_32 : decode (yB m_X11_wordIsKnown) 32 = .ok (.iload_n 3, 1) := by decide +kernel
theorem d_X11_wordIsKnown_33 : decode (yB m_X11_wordIsKnown) 33 = .ok (.invokevirtual 424, 3) := by decide +kernel
theorem d_X11_wordIsKnown_36 : decode (yB m_X11_wordIsKnown) 36 = .ok (.ifCond .ne 15, 3) := by decide +kernel
theorem d_X11_wordIsKnown_39 : decode (yB m_X11_wordIsKnown) 39 = .ok (.aload_n 0, 1) := by decide +kernel
theorem d_X11_wordIsKnown_40 : decode (yB m_X11_wordIsKnown) 40 = .ok (.iload_n 3, 1) := by decide +kernel
theorem d_X11_wordIsKnown_41 : decode (yB m_X11_wordIsKnown) 41 = .ok (.iload_n 1, 1) := by decide +kernel
theorem d_X11_wordIsKnown_42 : decode (yB m_X11_wordIsKnown) 42 = .ok (.iload_n 2, 1) := by decide +kernel
theorem d_X11_wordIsKnown_43 : decode (yB m_X11_wordIsKnown) 43 = .ok (.invokevirtual 427, 3) := by decide +kernel
theorem d_X11_wordIsKnown_46 : decode (yB m_X11_wordIsKnown) 46 = .ok (.ifCond .eq 5, 3) := by decide +kernel
theorem d_X11_wordIsKnown_49 : decode (yB m_X11_wordIsKnown) 49 = .ok (.iconst 0, 1) := by decide +kernel
theorem d_X11_wordIsKnown_50 : decode (yB m_X11_wordIsKnown) 50 = .ok (.ireturn, 1) := by decide +kernel
theorem d_X11_wordIsKnown_51 : decode (yB m_X11_wordIsKnown) 51 = .ok (.iinc 3 1, 3) := by decide +kernel
theorem d_X11_wordIsKnown_54 : decode (yB m_X11_wordIsKnown) 54 = .ok (.goto (-52), 3) := by decide +kernel
theorem d_X11_wordIsKnown_57 : decode (yB m_X11_wordIsKnown) 57 = .ok (.iconst 1, 1) := by decide +kernel
theorem d_X11_wordIsKnown_58 : decode (yB m_X11_wordIsKnown) 58 = .ok (.ireturn, 1) := by decide +kernel
def fn_X11_wordIsKnown_2 (v1 : Int32) (v2 : Int32) : Nat → Int32 → zD → Option (Int32 × zD)
  | 0, _, _ => none
  | n + 1, v3, D => (if (gI D 3 3) ≤ v3 then ((some ((1 : Int32), D))) else ((fn_X0_lengthOf 3 v3 D).bind fun x2 => (if x2 = (gI D 57 2) then ((fn_X11_standingSpells v3 D).bind fun x4 => (if x4 = 0 then ((fn_X11_standingMayBe v3 v1 v2 D).bind fun q6 => (if q6.1 = 0 then (((fn_X11_wordIsKnown_2 v1 v2 n) (v3 + (1 : Int32)) q6.2)) else ((some ((0 : Int32), q6.2))))) else (((fn_X11_wordIsKnown_2 v1 v2 n) (v3 + (1 : Int32)) D)))) else (((fn_X11_wordIsKnown_2 v1 v2 n) (v3 + (1 : Int32)) D)))))
def fn_X11_wordIsKnown (v1 : Int32) (v2 : Int32) (D : zD) : Option (Int32 × zD) := (fn_X11_wordIsKnown_2 v1 v2 zFU (0 : Int32) D)
theorem s_X11_wordIsKnown_2 {X : zX} {Sh : zSh} {d : Nat} (hst : (zl X).stackTraces = false) (h0 : zSh0 Sh) (hd : 6 ≤ d) {v1 : Int32} {v2 : Int32} : ∀ (n : Nat) (v3 : Int32) (D : zD) , Rn X m_X11_wordIsKnown (d + 1) 2 [(0, .ref 0), (1, .int v1), (2, .int v2), (3, .int v3)] [] (Sh, D) ((oI Sh) (fn_X11_wordIsKnown_2 v1 v2 n v3 D)) := by
  intro n
  induction n with
  | zero => intro v3 D; exact Rn_none rfl
  | succ n hk2 =>
    intro v3 D
    rw [fn_X11_wordIsKnown_2]
    refine r_iload_n (pc := 2) 3 d_X11_wordIsKnown_2 rfl rfl ?_
    refine r_aload_n (pc := 3) 0 d_X11_wordIsKnown_3 rfl rfl ?_
    refine r_getR (pc := 4) g_X11_25 (K_0 h0) rfl (R_0_2 h0) d_X11_wordIsKnown_4 ?_
    refine q_gIn (pc := 7) g_X11_192 (K_3 h0) rfl d_X11_wordIsKnown_7 ?_
    refine r_icmp_ge (f := (oI Sh)) (pc := 10) 57 d_X11_wordIsKnown_10 (by decide) (fun c1 => ?_) (fun c1 => ?_)
    · refine r_iconst (pc := 57) (1 : Int32) d_X11_wordIsKnown_57 rfl ?_
      exact r_zret (pc := 58) rfl (by decide) d_X11_wordIsKnown_58
    · refine r_aload_n (pc := 13) 0 d_X11_wordIsKnown_13 rfl rfl ?_
      refine r_getR (pc := 14) g_X11_25 (K_0 h0) rfl (R_0_2 h0) d_X11_wordIsKnown_14 ?_
      refine r_iload_n (pc := 17) 3 d_X11_wordIsKnown_17 rfl rfl ?_
      refine q_cP (f := (oI Sh)) (av := [.ref 3, .int v3]) (st := []) (z_runV ck_X0_lengthOf rfl ml_X11_279 ci_X0_lengthOf cv_X0_lengthOf (K_3 h0) (ci := 0) rfl rfl (Nat.le_of_ble_eq_true rfl) d_X11_wordIsKnown_18) (s_X0_lengthOf hst h0 (by omega) (I_3)) kp_I (fun x2 _ => ?_)
      refine r_aload_n (pc := 21) 0 d_X11_wordIsKnown_21 rfl rfl ?_
      refine r_getR (pc := 22) g_X11_55 (K_0 h0) rfl (R_0_6 h0) d_X11_wordIsKnown_22 ?_
      refine q_gIn (pc := 25) g_X11_349 (K_57 h0) rfl d_X11_wordIsKnown_25 ?_
      refine r_icmp_ne (f := (oI Sh)) (pc := 28) 51 d_X11_wordIsKnown_28 (by decide) (fun c3 => ?_) (fun c3 => ?_)
      · refine r_iinc (pc := 51) ((v3 + (1 : Int32))) 3 (ls' := [(3, .int (v3 + (1 : Int32))), (0, .ref 0), (1, .int v1), (2, .int v2)]) d_X11_wordIsKnown_51 rfl rfl (Nat.le_of_ble_eq_true rfl) rfl ?_
        refine r_goto (pc := 54) 2 d_X11_wordIsKnown_54 (by decide) ?_
        refine r_pick [1, 2, 3, 0] (ls' := [(0, .ref 0), (1, .int v1), (2, .int v2), (3, .int (v3 + (1 : Int32)))]) rfl ?_
        exact hk2 (v3 + (1 : Int32)) D 
      · refine r_aload_n (pc := 31) 0 d_X11_wordIsKnown_31 rfl rfl ?_
        refine r_iload_n (pc := 32) 3 d_X11_wordIsKnown_32 rfl rfl ?_
        refine q_cP (f := (oI Sh)) (av := [.ref 0, .int v3]) (st := []) (z_runV ck_X11_standingSpells rfl ml_X11_424 ci_X11_standingSpells cv_X11_standingSpells (K_0 h0) (ci := 11) rfl rfl (Nat.le_of_ble_eq_true rfl) d_X11_wordIsKnown_33) (s_X11_standingSpells hst h0 (by omega)) kp_I (fun x4 _ => ?_)
        refine r_if_ne (f := (oI Sh)) (pc := 36) 51 d_X11_wordIsKnown_36 (by decide) (fun c5 => ?_) (fun c5 => ?_)
        · refine r_iinc (pc := 51) ((v3 + (1 : Int32))) 3 (ls' := [(3, .int (v3 + (1 : Int32))), (0, .ref 0), (1, .int v1), (2, .int v2)]) d_X11_wordIsKnown_51 rfl rfl (Nat.le_of_ble_eq_true rfl) rfl ?_
          refine r_goto (pc := 54) 2 d_X11_wordIsKnown_54 (by decide) ?_
          refine r_pick [1, 2, 3, 0] (ls' := [(0, .ref 0), (1, .int v1), (2, .int v2), (3, .int (v3 + (1 : Int32)))]) rfl ?_
          exact hk2 (v3 + (1 : Int32)) D 
        · refine r_aload_n (pc := 39) 0 d_X11_wordIsKnown_39 rfl rfl ?_
          refine r_iload_n (pc := 40) 3 d_X11_wordIsKnown_40 rfl rfl ?_
          refine r_iload_n (pc := 41) 1 d_X11_wordIsKnown_41 rfl rfl ?_
          refine r_iload_n (pc := 42) 2 d_X11_wordIsKnown_42 rfl rfl ?_
          refine q_cI (f := (oI Sh)) (av := [.ref 0, .int v3, .int v1, .int v2]) (st := []) (z_runV ck_X11_standingMayBe rfl ml_X11_427 ci_X11_standingMayBe cv_X11_standingMayBe (K_0 h0) (ci := 11) rfl rfl (Nat.le_of_ble_eq_true rfl) d_X11_wordIsKnown_43) (s_X11_standingMayBe hst h0 (by omega)) kp_I (fun q6 _ => ?_)
          refine r_if_eq (f := (oI Sh)) (pc := 46) 51 d_X11_wordIsKnown_46 (by decide) (fun c7 => ?_) (fun c7 => ?_)
          · refine r_iinc (pc := 51) ((v3 + (1 : Int32))) 3 (ls' := [(3, .int (v3 + (1 : Int32))), (0, .ref 0), (1, .int v1), (2, .int v2)]) d_X11_wordIsKnown_51 rfl rfl (Nat.le_of_ble_eq_true rfl) rfl ?_
            refine r_goto (pc := 54) 2 d_X11_wordIsKnown_54 (by decide) ?_
            refine r_pick [1, 2, 3, 0] (ls' := [(0, .ref 0), (1, .int v1), (2, .int v2), (3, .int (v3 + (1 : Int32)))]) rfl ?_
            exact hk2 (v3 + (1 : Int32)) q6.2 
          · refine r_iconst (pc := 49) (0 : Int32) d_X11_wordIsKnown_49 rfl ?_
            exact r_zret (pc := 50) rfl (by decide) d_X11_wordIsKnown_50
theorem s_X11_wordIsKnown {X : zX} {Sh : zSh} {d : Nat} (hst : (zl X).stackTraces = false) (h0 : zSh0 Sh) (hd : 7 ≤ d) {v1 : Int32} {v2 : Int32} {D : zD} : Sd X m_X11_wordIsKnown d [.ref 0, .int v1, .int v2] (Sh, D) ((oI Sh) (fn_X11_wordIsKnown v1 v2 D)) := by
  obtain ⟨d, rfl⟩ : ∃ e, d = e + 1 := ⟨d - 1, by omega⟩
  replace hd : 6 ≤ d := by omega
  refine z_body ck_X11_wordIsKnown rfl (Nat.le_of_ble_eq_true rfl) rfl hst ?_
  rw [fn_X11_wordIsKnown]
  show Rn X m_X11_wordIsKnown (d + 1) 0 [(0, .ref 0), (1, .int v1), (2, .int v2)] [] (Sh, D) _
  refine r_iconst (pc := 0) (0 : Int32) d_X11_wordIsKnown_0 rfl ?_
  refine r_istore_n (pc := 1) (ls' := [(3, .int (0 : Int32)), (0, .ref 0), (1, .int v1), (2, .int v2)]) d_X11_wordIsKnown_1 rfl (Nat.le_of_ble_eq_true rfl) rfl ?_
  refine r_pick [1, 2, 3, 0] (ls' := [(0, .ref 0), (1, .int v1), (2, .int v2), (3, .int (0 : Int32))]) rfl ?_
  exact s_X11_wordIsKnown_2 hst h0 hd zFU  (0 : Int32) D
/-! CoveredSigns.voyage -/
theorem d_X11_voyage_0 : decode (yB m_X11_voyage) 0 = .ok (.aload_n 0, 1) := by decide +kernel
theorem d_X11_voyage_1 : decode (yB m_X11_voyage) 1 = .ok (.getfield 55, 3) := by decide +kernel
theorem d_X11_voyage_4 : decode (yB m_X11_voyage) 4 = .ok (.getfield 349, 3) := by decide +kernel
theorem d_X11_voyage_7 : decode (yB m_X11_voyage) 7 = .ok (.iconst 1, 1) := by decide +kernel
theorem d_X11_voyage_8 : decode (yB m_X11_voyage) 8 = .ok (.if_icmp .lt 22, 3) := by decide +kernel
theorem d_X11_voyage_11 : decode (yB m_X11_voyage) 11 = .ok (.aload_n 0, 1) := by decide +kernel
theorem d_X11_voyage_12 : decode (yB m_X11_voyage) 12 = .ok (.getfield 55, 3) := by decide +kernel
theorem d_X11_voyage_15 : decode (yB m_X11_voyage) 15 = .ok (.getfield 349, 3) := by decide +kernel
theorem d_X11_voyage_18 : decode (yB m_X11_voyage) 18 = .ok (.bipush 6, 2) := by decide +kernel
theorem d_X11_voyage_20 : decode (yB m_X11_voyage) 20 = .ok (.if_icmp .gt 10, 3) := by decide +kernel
theorem d_X11_voyage_23 : decode (yB m_X11_voyage) 23 = .ok (.aload_n 0, 1) := by decide +kernel
theorem d_X11_voyage_24 : decode (yB m_X11_voyage) 24 = .ok (.invokevirtual 370, 3) := by decide +kernel
theorem d_X11_voyage_27 : decode (yB m_X11_voyage) 27 = .ok (.ifCond .ne 5, 3) := by decide +kernel
theorem d_X11_voyage_30 : decode (yB m_X11_voyage) 30 = .ok (.iconst (-1), 1) := by decide +kernel
theorem d_X11_voyage_31 : decode (yB m_X11_voyage) 31 = .ok (.ireturn, 1) := by decide +kernel
theorem d_X11_voyage_32 : decode (yB m_X11_voyage) 32 = .ok (.iconst 0, 1) := by decide +kernel
theorem d_X11_voyage_33 : decode (yB m_X11_voyage) 33 = .ok (.istore_n 2, 1) := by decide +kernel
theorem d_X11_voyage_34 : decode (yB m_X11_voyage) 34 = .ok (.iload_n 2, 1) := by decide +kernel
theorem d_X11_voyage_35 : decode (yB m_X11_voyage) 35 = .ok (.bipush 100, 2) := by decide +kernel
theorem d_X11_voyage_37 : decode (yB m_X11_voyage) 37 = .ok (.if_icmp .ge 20, 3) := by decide +kernel
theorem d_X11_voyage_40 : decode (yB m_X11_voyage) 40 = .ok (.aload_n 0, 1) := by decide +kernel
theorem d_X11_voyage_41 : decode (yB m_X11_voyage) 41 = .ok (.iload_n 2, 1) := by decide +kernel
theorem d_X11_voyage_42 : decode (yB m_X11_voyage) 42 = .ok (.iload_n 1, 1) := by decide +kernel
theorem d_X11_voyage_43 : decode (yB m_X11_voyage) 43 = .ok (.invokevirtual 373, 3) := by decide +kernel
theorem d_X11_voyage_46 : decode (yB m_X11_voyage) 46 = .ok (.ifCond .eq 5, 3) := by decide +kernel
theorem d_X11_voyage_49 : decode (yB m_X11_voyage) 49 = .ok (.iload_n 2, 1) := by decide +kernel
theorem d_X11_voyage_50 : decode (yB m_X11_voyage) 50 = .ok (.ireturn, 1) := by decide +kernel
theorem d_X11_voyage_51 : decode (yB m_X11_voyage) 51 = .ok (.iinc 2 1, 3) := by decide +kernel
theorem d_X11_voyage_54 : decode (yB m_X11_voyage) 54 = .ok (.goto (-20), 3) := by decide +kernel
theorem d_X11_voyage_57 : decode (yB m_X11_voyage) 57 = .ok (.iconst (-1), 1) := by decide +kernel
theorem d_X11_voyage_58 : decode (yB m_X11_voyage) 58 = .ok (.ireturn, 1) := by decide +kernel
def fn_X11_voyage_34 (v1 : Int32) : Nat → Int32 → zD → Option (Int32 × zD)
  | 0, _, _ => none
  | n + 1, v2, D => (if (100 : Int32) ≤ v2 then ((some ((-1 : Int32), D))) else ((fn_X11_wordIsKnown v2 v1 D).bind fun q6 => (if q6.1 = 0 then (((fn_X11_voyage_34 v1 n) (v2 + (1 : Int32)) q6.2)) else ((some (v2, q6.2))))))
def fn_X11_voyage (v1 : Int32) (D : zD) : Option (Int32 × zD) := (if (gI D 57 2) < (1 : Int32) then ((some ((-1 : Int32), D))) else ((if (6 : Int32) < (gI D 57 2) then ((some ((-1 : Int32), D))) else ((fn_X11_standingIsTold D).bind fun x3 => (if x3 = 0 then ((some ((-1 : Int32), D))) else ((fn_X11_voyage_34 v1 zFU (0 : Int32) D)))))))
theorem s_X11_voyage_34 {X : zX} {Sh : zSh} {d : Nat} (hst : (zl X).stackTraces = false) (h0 : zSh0 Sh) (hd : 7 ≤ d) {v1 : Int32} : ∀ (n : Nat) (v2 : Int32) (D : zD) , Rn X m_X11_voyage (d + 1) 34 [(0, .ref 0), (1, .int v1), (2, .int v2)] [] (Sh, D) ((oI Sh) (fn_X11_voyage_34 v1 n v2 D)) := by
  intro n
  induction n with
  | zero => intro v2 D; exact Rn_none rfl
  | succ n hk34 =>
    intro v2 D
    rw [fn_X11_voyage_34]
    refine r_iload_n (pc := 34) 2 d_X11_voyage_34 rfl rfl ?_
    refine r_bipush (pc := 35) (100 : Int32) d_X11_voyage_35 rfl ?_
    refine r_icmp_ge (f := (oI Sh)) (pc := 37) 57 d_X11_voyage_37 (by decide) (fun c5 => ?_) (fun c5 => ?_)
    · refine r_iconst (pc := 57) (-1 : Int32) d_X11_voyage_57 rfl ?_
      exact r_iret (pc := 58) rfl d_X11_voyage_58
    · refine r_aload_n (pc := 40) 0 d_X11_voyage_40 rfl rfl ?_
      refine r_iload_n (pc := 41) 2 d_X11_voyage_41 rfl rfl ?_
      refine r_iload_n (pc := 42) 1 d_X11_voyage_42 rfl rfl ?_
      refine q_cI (f := (oI Sh)) (av := [.ref 0, .int v2, .int v1]) (st := []) (z_runV ck_X11_wordIsKnown rfl ml_X11_373 ci_X11_wordIsKnown cv_X11_wordIsKnown (K_0 h0) (ci := 11) rfl rfl (Nat.le_of_ble_eq_true rfl) d_X11_voyage_43) (s_X11_wordIsKnown hst h0 (by omega)) kp_I (fun q6 _ => ?_)
      refine r_if_eq (f := (oI Sh)) (pc := 46) 51 d_X11_voyage_46 (by decide) (fun c7 => ?_) (fun c7 => ?_)
      · refine r_iinc (pc := 51) ((v2 + (1 : Int32))) 2 (ls' := [(2, .int (v2 + (1 : Int32))), (0, .ref 0), (1, .int v1)]) d_X11_voyage_51 rfl rfl (Nat.le_of_ble_eq_true rfl) rfl ?_
        refine r_goto (pc := 54) 34 d_X11_voyage_54 (by decide) ?_
        refine r_pick [1, 2, 0] (ls' := [(0, .ref 0), (1, .int v1), (2, .int (v2 + (1 : Int32)))]) rfl ?_
        exact hk34 (v2 + (1 : Int32)) q6.2 
      · refine r_iload_n (pc := 49) 2 d_X11_voyage_49 rfl rfl ?_
        exact r_iret (pc := 50) rfl d_X11_voyage_50
theorem s_X11_voyage {X : zX} {Sh : zSh} {d : Nat} (hst : (zl X).stackTraces = false) (h0 : zSh0 Sh) (hd : 8 ≤ d) {v1 : Int32} {D : zD} : Sd X m_X11_voyage d [.ref 0, .int v1] (Sh, D) ((oI Sh) (fn_X11_voyage v1 D)) := by
  obtain ⟨d, rfl⟩ : ∃ e, d = e + 1 := ⟨d - 1, by omega⟩
  replace hd : 7 ≤ d := by omega
  refine z_body ck_X11_voyage rfl (Nat.le_of_ble_eq_true rfl) rfl hst ?_
  rw [fn_X11_voyage]
  show Rn X m_X11_voyage (d + 1) 0 [(0, .ref 0), (1, .int v1)] [] (Sh, D) _
  refine r_aload_n (pc := 0) 0 d_X11_voyage_0 rfl rfl ?_
  refine r_getR (pc := 1) g_X11_55 (K_0 h0) rfl (R_0_6 h0) d_X11_voyage_1 ?_
  refine q_gIn (pc := 4) g_X11_349 (K_57 h0) rfl d_X11_voyage_4 ?_
  refine r_iconst (pc := 7) (1 : Int32) d_X11_voyage_7 rfl ?_
  refine r_icmp_lt (f := (oI Sh)) (pc := 8) 30 d_X11_voyage_8 (by decide) (fun c1 => ?_) (fun c1 => ?_)
  · refine r_iconst (pc := 30) (-1 : Int32) d_X11_voyage_30 rfl ?_
    exact r_iret (pc := 31) rfl d_X11_voyage_31
  · refine r_aload_n (pc := 11) 0 d_X11_voyage_11 rfl rfl ?_
    refine r_getR (pc := 12) g_X11_55 (K_0 h0) rfl (R_0_6 h0) d_X11_voyage_12 ?_
    refine q_gIn (pc := 15) g_X11_349 (K_57 h0) rfl d_X11_voyage_15 ?_
    refine r_bipush (pc := 18) (6 : Int32) d_X11_voyage_18 rfl ?_
    refine r_icmp_gt (f := (oI Sh)) (pc := 20) 30 d_X11_voyage_20 (by decide) (fun c2 => ?_) (fun c2 => ?_)
    · refine r_iconst (pc := 30) (-1 : Int32) d_X11_voyage_30 rfl ?_
      exact r_iret (pc := 31) rfl d_X11_voyage_31
    · refine r_aload_n (pc := 23) 0 d_X11_voyage_23 rfl rfl ?_
      refine q_cP (f := (oI Sh)) (av := [.ref 0]) (st := []) (z_runV ck_X11_standingIsTold rfl ml_X11_370 ci_X11_standingIsTold cv_X11_standingIsTold (K_0 h0) (ci := 11) rfl rfl (Nat.le_of_ble_eq_true rfl) d_X11_voyage_24) (s_X11_standingIsTold hst h0 (by omega)) kp_I (fun x3 _ => ?_)
      refine r_if_ne (f := (oI Sh)) (pc := 27) 32 d_X11_voyage_27 (by decide) (fun c4 => ?_) (fun c4 => ?_)
      · refine r_iconst (pc := 32) (0 : Int32) d_X11_voyage_32 rfl ?_
        refine r_istore_n (pc := 33) (ls' := [(2, .int (0 : Int32)), (0, .ref 0), (1, .int v1)]) d_X11_voyage_33 rfl (Nat.le_of_ble_eq_true rfl) rfl ?_
        refine r_pick [1, 2, 0] (ls' := [(0, .ref 0), (1, .int v1), (2, .int (0 : Int32))]) rfl ?_
        exact s_X11_voyage_34 hst h0 hd zFU  (0 : Int32) D
      · refine r_iconst (pc := 30) (-1 : Int32) d_X11_voyage_30 rfl ?_
        exact r_iret (pc := 31) rfl d_X11_voyage_31
/-! CoveredSigns.imageAt -/
theorem d_X11_imageAt_0 : decode (yB m_X11_imageAt) 0 = .ok (.iload_n 1, 1) := by decide +kernel
theorem d_X11_imageAt_1 : decode (yB m_X11_imageAt) 1 = .ok (.ifCond .gt 8, 3) := by decide +kernel
theorem d_X11_imageAt_4 : decode (yB m_X11_imageAt) 4 = .ok (.aload_n 0, 1) := by decide +kernel
theorem d_X11_imageAt_5 : decode (yB m_X11_imageAt) 5 = .ok (.getfield 59, 3) := by decide +kernel
theorem d_X11_imageAt_8 : decode (yB m_X11_imageAt) 8 = .ok (.areturn, 1) := by decide +kernel
theorem d_X11_imageAt_9 : decode (yB m_X11_imageAt) 9 = .ok (.iload_n 1, 1) := by decide +kernel
theorem d_X11_imageAt_10 : decode (yB m_X11_imageAt) 10 = .ok (.iconst 1, 1) := by decide +kernel
theorem d_X11_imageAt_11 : decode (yB m_X11_imageAt) 11 = .ok (.if_icmp .ne 10, 3) := by decide +kernel
theorem d_X11_imageAt_14 : decode (yB m_X11_imageAt) 14 = .ok (.aload_n 0, 1) := by decide +kernel
theorem d_X11_imageAt_15 : decode (yB m_X11_imageAt) 15 = .ok (.getfield 62, 3) := by decide +kernel
theorem d_X11_imageAt_18 : decode (yB m_X11_imageAt) 18 = .ok (.goto 7, 3) := by decide +kernel
theorem d_X11_imageAt_21 : decode (yB m_X11_imageAt) 21 = .ok (.aload_n 0, 1) := by decide +kernel
theorem d_X11_imageAt_22 : decode (yB m_X11_imageAt) 22 = .ok (.getfield 65, 3) := by decide +kernel
theorem d_X11_imageAt_25 : decode (yB m_X11_imageAt) 25 = .ok (.areturn, 1) := by decide +kernel
def fn_X11_imageAt (v1 : Int32) (D : zD) : Option Nat := (if 0 < v1 then ((if v1 = (1 : Int32) then ((some 69)) else ((some 75)))) else ((some 63)))
theorem s_X11_imageAt {X : zX} {Sh : zSh} {d : Nat} (hst : (zl X).stackTraces = false) (h0 : zSh0 Sh) (hd : 1 ≤ d) {v1 : Int32} {D : zD} : Sd X m_X11_imageAt d [.ref 0, .int v1] (Sh, D) ((oA Sh D) (fn_X11_imageAt v1 D)) := by
  obtain ⟨d, rfl⟩ : ∃ e, d = e + 1 := ⟨d - 1, by omega⟩
  replace hd : 0 ≤ d := by omega
  refine z_body ck_X11_imageAt rfl (Nat.le_of_ble_eq_true rfl) rfl hst ?_
  rw [fn_X11_imageAt]
  show Rn X m_X11_imageAt (d + 1) 0 [(0, .ref 0), (1, .int v1)] [] (Sh, D) _
  refine r_iload_n (pc := 0) 1 d_X11_imageAt_0 rfl rfl ?_
  refine r_if_gt (f := (oA Sh D)) (pc := 1) 9 d_X11_imageAt_1 (by decide) (fun c1 => ?_) (fun c1 => ?_)
  · refine r_iload_n (pc := 9) 1 d_X11_imageAt_9 rfl rfl ?_
    refine r_iconst (pc := 10) (1 : Int32) d_X11_imageAt_10 rfl ?_
    refine r_icmp_ne (f := (oA Sh D)) (pc := 11) 21 d_X11_imageAt_11 (by decide) (fun c2 => ?_) (fun c2 => ?_)
    · refine r_aload_n (pc := 21) 0 d_X11_imageAt_21 rfl rfl ?_
      refine r_getR (pc := 22) g_X11_65 (K_0 h0) rfl (R_0_9 h0) d_X11_imageAt_22 ?_
      exact r_aret (pc := 25) rfl (Or.inl ⟨_, rfl⟩) d_X11_imageAt_25
    · refine r_aload_n (pc := 14) 0 d_X11_imageAt_14 rfl rfl ?_
      refine r_getR (pc := 15) g_X11_62 (K_0 h0) rfl (R_0_8 h0) d_X11_imageAt_15 ?_
      refine r_goto (pc := 18) 25 d_X11_imageAt_18 (by decide) ?_
      exact r_aret (pc := 25) rfl (Or.inl ⟨_, rfl⟩) d_X11_imageAt_25
  · refine r_aload_n (pc := 4) 0 d_X11_imageAt_4 rfl rfl ?_
    refine r_getR (pc := 5) g_X11_59 (K_0 h0) rfl (R_0_7 h0) d_X11_imageAt_5 ?_
    exact r_aret (pc := 8) rfl (Or.inl ⟨_, rfl⟩) d_X11_imageAt_8
theorem al_X11_imageAt {v1 : Int32} {D : zD} {o : Nat} (h : fn_X11_imageAt v1 D = some o) : o ∈ zI_9 := by
  rw [fn_X11_imageAt] at h
  split at h
  · split at h
    · cases h; exact I_69
    · cases h; exact I_75
  · cases h; exact I_63
/-! CoveredSigns.image -/
theorem d_X11_image_0 : decode (yB m_X11_image) 0 = .ok (.aload_n 0, 1) := by decide +kernel
theorem d_X11_image_1 : decode (yB m_X11_image) 1 = .ok (.getfield 154, 3) := by decide +kernel
theorem d_X11_image_4 : decode (yB m_X11_image) 4 = .ok (.iconst 3, 1) := by decide +kernel
theorem d_X11_image_5 : decode (yB m_X11_image) 5 = .ok (.if_icmp .lt 5, 3) := by decide +kernel
theorem d_X11_image_8 : decode (yB m_X11_image) 8 = .ok (.iconst (-1), 1) := by decide +kernel
theorem d_X11_image_9 : decode (yB m_X11_image) 9 = .ok (.ireturn, 1) := by decide +kernel
theorem d_X11_image_10 : decode (yB m_X11_image) 10 = .ok (.aload_n 0, 1) := by decide +kernel
theorem d_X11_image_11 : decode (yB m_X11_image) 11 = .ok (.aload_n 0, 1) := by decide +kernel
theorem d_X11_image_12 : decode (yB m_X11_image) 12 = .ok (.getfield 154, 3) := by decide +kernel
theorem d_X11_image_15 : decode (yB m_X11_image) 15 = .ok (.invokevirtual 377, 3) := by decide +kernel
theorem d_X11_image_18 : decode (yB m_X11_image) 18 = .ok (.aload_n 0, 1) := by decide +kernel
theorem d_X11_image_19 : decode (yB m_X11_image) 19 = .ok (.getfield 55, 3) := by decide +kernel
theorem d_X11_image_22 : decode (yB m_X11_image) 22 = .ok (.invokevirtual 381, 3) := by decide +kernel
theorem d_X11_image_25 : decode (yB m_X11_image) 25 = .ok (.aload_n 0, 1) := by decide +kernel
theorem d_X11_image_26 : decode (yB m_X11_image) 26 = .ok (.dup, 1) := by decide +kernel
theorem d_X11_image_27 : decode (yB m_X11_image) 27 = .ok (.getfield 154, 3) := by decide +kernel
theorem d_X11_image_30 : decode (yB m_X11_image) 30 = .ok (.iconst 1, 1) := by decide +kernel
theorem d_X11_image_31 : decode (yB m_X11_image) 31 = .ok (.iadd, 1) := by decide +kernel
theorem d_X11_image_32 : decode (yB m_X11_image) 32 = .ok (.putfield 154, 3) := by decide +kernel
theorem d_X11_image_35 : decode (yB m_X11_image) 35 = .ok (.aload_n 0, 1) := by decide +kernel
theorem d_X11_image_36 : decode (yB m_X11_image) 36 = .ok (.getfield 154, 3) := by decide +kernel
theorem d_X11_image_39 : decode (yB m_X11_image) 39 = .ok (.ireturn, 1) := by decide +kernel
def fn_X11_image (D : zD) : Option (Int32 × zD) := (if (gI D 0 18) < (3 : Int32) then ((fn_X11_imageAt (gI D 0 18) D).bind fun o2 => (fn_X9_copyFrom o2 57 D).bind fun D4 => zlet (sI D4 0 18 ((gI D4 0 18) + (1 : Int32))) fun D5 => (some ((gI D5 0 18), D5))) else ((some ((-1 : Int32), D))))
theorem s_X11_image {X : zX} {Sh : zSh} {d : Nat} (hst : (zl X).stackTraces = false) (h0 : zSh0 Sh) (hd : 6 ≤ d)  {D : zD} : Sd X m_X11_image d [.ref 0] (Sh, D) ((oI Sh) (fn_X11_image D)) := by
  obtain ⟨d, rfl⟩ : ∃ e, d = e + 1 := ⟨d - 1, by omega⟩
  replace hd : 5 ≤ d := by omega
  refine z_body ck_X11_image rfl (Nat.le_of_ble_eq_true rfl) rfl hst ?_
  rw [fn_X11_image]
  show Rn X m_X11_image (d + 1) 0 [(0, .ref 0)] [] (Sh, D) _
  refine r_aload_n (pc := 0) 0 d_X11_image_0 rfl rfl ?_
  refine q_gI (pc := 1) g_X11_154 (K_0 h0) rfl d_X11_image_1 ?_
  refine r_iconst (pc := 4) (3 : Int32) d_X11_image_4 rfl ?_
  refine r_icmp_lt (f := (oI Sh)) (pc := 5) 10 d_X11_image_5 (by decide) (fun c1 => ?_) (fun c1 => ?_)
  · refine r_aload_n (pc := 10) 0 d_X11_image_10 rfl rfl ?_
    refine r_aload_n (pc := 11) 0 d_X11_image_11 rfl rfl ?_
    refine q_gI (pc := 12) g_X11_154 (K_0 h0) rfl d_X11_image_12 ?_
    refine q_cA (f := (oI Sh)) (av := [.ref 0, .int (gI D 0 18)]) (st := []) (z_runV ck_X11_imageAt rfl ml_X11_377 ci_X11_imageAt cv_X11_imageAt (K_0 h0) (ci := 11) rfl rfl (Nat.le_of_ble_eq_true rfl) d_X11_image_15) (s_X11_imageAt hst h0 (by omega)) kp_I (fun o2 ha3 => ?_)
    refine r_aload_n (pc := 18) 0 d_X11_image_18 rfl rfl ?_
    refine r_getR (pc := 19) g_X11_55 (K_0 h0) rfl (R_0_6 h0) d_X11_image_19 ?_
    refine q_cV (f := (oI Sh)) (av := [.ref o2, .ref 57]) (st := []) (z_runV ck_X9_copyFrom rfl ml_X11_381 ci_X9_copyFrom cv_X9_copyFrom (LK_9 h0 (al_X11_imageAt ha3)) (ci := 9) rfl rfl (Nat.le_of_ble_eq_true rfl) d_X11_image_22) (s_X9_copyFrom hst h0 (by omega) (al_X11_imageAt ha3) (I_57)) kp_I (fun D4 _ => ?_)
    refine r_aload_n (pc := 25) 0 d_X11_image_25 rfl rfl ?_
    refine r_dup (pc := 26) d_X11_image_26 rfl ?_
    refine q_gI (pc := 27) g_X11_154 (K_0 h0) rfl d_X11_image_27 ?_
    refine r_iconst (pc := 30) (1 : Int32) d_X11_image_30 rfl ?_
    refine r_iadd (pc := 31) d_X11_image_31 ?_
    refine r_putI (pc := 32) p_X11_154 (K_0 h0) rfl (Or.inl rfl) d_X11_image_32 ?_
    refine r_letD (f := (oI Sh)) (fun D5 => ?_)
    refine r_aload_n (pc := 35) 0 d_X11_image_35 rfl rfl ?_
    refine q_gI (pc := 36) g_X11_154 (K_0 h0) rfl d_X11_image_36 ?_
    exact r_iret (pc := 39) rfl d_X11_image_39
  · refine r_iconst (pc := 8) (-1 : Int32) d_X11_image_8 rfl ?_
    exact r_iret (pc := 9) rfl d_X11_image_9
/-! CoveredSigns.restore -/
theorem d_X11_restore_0 : decode (yB m_X11_restore) 0 = .ok (.aload_n 0, 1) := by decide +kernel
theorem d_X11_restore_1 : decode (yB m_X11_restore) 1 = .ok (.getfield 154, 3) := by decide +kernel
theorem d_X11_restore_4 : decode (yB m_X11_restore) 4 = .ok (.ifCond .gt 5, 3) := by decide +kernel
theorem d_X11_restore_7 : decode (yB m_X11_restore) 7 = .ok (.iconst (-1), 1) := by decide +kernel
theorem d_X11_restore_8 : decode (yB m_X11_restore) 8 = .ok (.ireturn, 1) := by decide +kernel
theorem d_X11_restore_9 : decode (yB m_X11_restore) 9 = .ok (.aload_n 0, 1) := by decide +kernel
theorem d_X11_restore_10 : decode (yB m_X11_restore) 10 = .ok (.dup, 1) := by decide +kernel
theorem d_X11_restore_11 : decode (yB m_X11_restore) 11 = .ok (.getfield 154, 3) := by decide +kernel
theorem d_X11_restore_14 : decode (yB m_X11_restore) 14 = .ok (.iconst 1, 1) := by decide +kernel
theorem d_X11_restore_15 : decode (yB m_X11_restore) 15 = .ok (.isub, 1) := by decide +kernel
theorem d_X11_restore_16 : decode (yB m_X11_restore) 16 = .ok (.putfield 154, 3) := by decide +kernel
theorem d_X11_restore_19 : decode (yB m_X11_restore) 19 = .ok (.aload_n 0, 1) := by decide +kernel
theorem d_X11_restore_20 : decode (yB m_X11_restore) 20 = .ok (.getfield 55, 3) := by decide +kernel
theorem d_X11_restore_23 : decode (yB m_X11_restore) 23 = .ok (.aload_n 0, 1) := by decide +kernel
theorem d_X11_restore_24 : decode (yB m_X11_restore) 24 = .ok (.aload_n 0, 1) := by decide +kernel
theorem d_X11_restore_25 : decode (yB m_X11_restore) 25 = .ok (.getfield 154, 3) := by decide +kernel
theorem d_X11_restore_28 : decode (yB m_X11_restore) 28 = .ok (.invokevirtual 377, 3) := by decide +kernel
theorem d_X11_restore_31 : decode (yB m_X11_restore) 31 = .ok (.invokevirtual 381, 3) := by decide +kernel
theorem d_X11_restore_34 : decode (yB m_X11_restore) 34 = .ok (.aload_n 0, 1) := by decide +kernel
theorem d_X11_restore_35 : decode (yB m_X11_restore) 35 = .ok (.getfield 103, 3) := by decide +kernel
theorem d_X11_restore_38 : decode (yB m_X11_restore) 38 = .ok (.invokevirtual 157, 3) := by decide +kernel
theorem d_X11_restore_41 : decode (yB m_X11_restore) 41 = .ok (.aload_n 0, 1) := by decide +kernel
theorem d_X11_restore_42 : decode (yB m_X11_restore) 42 = .ok (.invokevirtual 160, 3) := by decide +kernel
theorem d_X11_restore_45 : decode (yB m_X11_restore) 45 = .ok (.aload_n 0, 1) := by decide +kernel
theorem d_X11_restore_46 : decode (yB m_X11_restore) 46 = .ok (.getfield 154, 3) := by decide +kernel
theorem d_X11_restore_49 : decode (yB m_X11_restore) 49 = .ok (.ireturn, 1) := by decide +kernel
def fn_X11_restore (D : zD) : Option (Int32 × zD) := (if 0 < (gI D 0 18) then (zlet (sI D 0 18 ((gI D 0 18) - (1 : Int32))) fun D2 => (fn_X11_imageAt (gI D2 0 18) D2).bind fun o3 => (fn_X9_copyFrom 57 o3 D2).bind fun D5 => (fn_X5_spoil D5).bind fun D6 => (fn_X11_renew D6).bind fun D7 => (some ((gI D7 0 18), D7))) else ((some ((-1 : Int32), D))))
theorem s_X11_restore {X : zX} {Sh : zSh} {d : Nat} (hst : (zl X).stackTraces = false) (h0 : zSh0 Sh) (hd : 6 ≤ d)  {D : zD} : Sd X m_X11_restore d [.ref 0] (Sh, D) ((oI Sh) (fn_X11_restore D)) := by
  obtain ⟨d, rfl⟩ : ∃ e, d = e + 1 := ⟨d - 1, by omega⟩
  replace hd : 5 ≤ d := by omega
  refine z_body ck_X11_restore rfl (Nat.le_of_ble_eq_true rfl) rfl hst ?_
  rw [fn_X11_restore]
  show Rn X m_X11_restore (d + 1) 0 [(0, .ref 0)] [] (Sh, D) _
  refine r_aload_n (pc := 0) 0 d_X11_restore_0 rfl rfl ?_
  refine q_gI (pc := 1) g_X11_154 (K_0 h0) rfl d_X11_restore_1 ?_
  refine r_if_gt (f := (oI Sh)) (pc := 4) 9 d_X11_restore_4 (by decide) (fun c1 => ?_) (fun c1 => ?_)
  · refine r_aload_n (pc := 9) 0 d_X11_restore_9 rfl rfl ?_
    refine r_dup (pc := 10) d_X11_restore_10 rfl ?_
    refine q_gI (pc := 11) g_X11_154 (K_0 h0) rfl d_X11_restore_11 ?_
    refine r_iconst (pc := 14) (1 : Int32) d_X11_restore_14 rfl ?_
    refine r_isub (pc := 15) d_X11_restore_15 ?_
    refine r_putI (pc := 16) p_X11_154 (K_0 h0) rfl (Or.inl rfl) d_X11_restore_16 ?_
    refine r_letD (f := (oI Sh)) (fun D2 => ?_)
    refine r_aload_n (pc := 19) 0 d_X11_restore_19 rfl rfl ?_
    refine r_getR (pc := 20) g_X11_55 (K_0 h0) rfl (R_0_6 h0) d_X11_restore_20 ?_
    refine r_aload_n (pc := 23) 0 d_X11_restore_23 rfl rfl ?_
    refine r_aload_n (pc := 24) 0 d_X11_restore_24 rfl rfl ?_
    refine q_gI (pc := 25) g_X11_154 (K_0 h0) rfl d_X11_restore_25 ?_
    refine q_cA (f := (oI Sh)) (av := [.ref 0, .int (gI D2 0 18)]) (st := [.ref 57]) (z_runV ck_X11_imageAt rfl ml_X11_377 ci_X11_imageAt cv_X11_imageAt (K_0 h0) (ci := 11) rfl rfl (Nat.le_of_ble_eq_true rfl) d_X11_restore_28) (s_X11_imageAt hst h0 (by omega)) kp_I (fun o3 ha4 => ?_)
    refine q_cV (f := (oI Sh)) (av := [.ref 57, .ref o3]) (st := []) (z_runV ck_X9_copyFrom rfl ml_X11_381 ci_X9_copyFrom cv_X9_copyFrom (K_57 h0) (ci := 9) rfl rfl (Nat.le_of_ble_eq_true rfl) d_X11_restore_31) (s_X9_copyFrom hst h0 (by omega) (I_57) (al_X11_imageAt ha4)) kp_I (fun D5 _ => ?_)
    refine r_aload_n (pc := 34) 0 d_X11_restore_34 rfl rfl ?_
    refine r_getR (pc := 35) g_X11_103 (K_0 h0) rfl (R_0_14 h0) d_X11_restore_35 ?_
    refine q_cV (f := (oI Sh)) (av := [.ref 97]) (st := []) (z_runV ck_X5_spoil rfl ml_X11_157 ci_X5_spoil cv_X5_spoil (K_97 h0) (ci := 5) rfl rfl (Nat.le_of_ble_eq_true rfl) d_X11_restore_38) (s_X5_spoil hst h0 (by omega)) kp_I (fun D6 _ => ?_)
    refine r_aload_n (pc := 41) 0 d_X11_restore_41 rfl rfl ?_
    refine q_cV (f := (oI Sh)) (av := [.ref 0]) (st := []) (z_runV ck_X11_renew rfl ml_X11_160 ci_X11_renew cv_X11_renew (K_0 h0) (ci := 11) rfl rfl (Nat.le_of_ble_eq_true rfl) d_X11_restore_42) (s_X11_renew hst h0 (by omega)) kp_I (fun D7 _ => ?_)
    refine r_aload_n (pc := 45) 0 d_X11_restore_45 rfl rfl ?_
    refine q_gI (pc := 46) g_X11_154 (K_0 h0) rfl d_X11_restore_46 ?_
    exact r_iret (pc := 49) rfl d_X11_restore_49
  · refine r_iconst (pc := 7) (-1 : Int32) d_X11_restore_7 rfl ?_
    exact r_iret (pc := 8) rfl d_X11_restore_8
