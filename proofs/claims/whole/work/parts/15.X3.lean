/-! CoveredSigns$Covers.at -/
theorem d_X3_at_0 : decode (yB m_X3_at) 0 = .ok (.iload_n 1, 1) := by decide +kernel
theorem d_X3_at_1 : decode (yB m_X3_at) 1 = .ok (.ifCond .lt 27, 3) := by decide +kernel
theorem d_X3_at_4 : decode (yB m_X3_at) 4 = .ok (.iload_n 1, 1) := by decide +kernel
theorem d_X3_at_5 : decode (yB m_X3_at) 5 = .ok (.aload_n 0, 1) := by decide +kernel
theorem d_X3_at_6 : decode (yB m_X3_at) 6 = .ok (.getfield 15, 3) := by decide +kernel
theorem d_X3_at_9 : decode (yB m_X3_at) 9 = .ok (.if_icmp .ge 19, 3) := by decide +kernel
theorem d_X3_at_12 : decode (yB m_X3_at) 12 = .ok (.iload_n 1, 1) := by decide +kernel
theorem d_X3_at_13 : decode (yB m_X3_at) 13 = .ok (.sipush 500, 3) := by decide +kernel
theorem d_X3_at_16 : decode (yB m_X3_at) 16 = .ok (.if_icmp .ge 12, 3) := by decide +kernel
theorem d_X3_at_19 : decode (yB m_X3_at) 19 = .ok (.aload_n 0, 1) := by decide +kernel
theorem d_X3_at_20 : decode (yB m_X3_at) 20 = .ok (.getfield 9, 3) := by decide +kernel
theorem d_X3_at_23 : decode (yB m_X3_at) 23 = .ok (.iload_n 1, 1) := by decide +kernel
theorem d_X3_at_24 : decode (yB m_X3_at) 24 = .ok (.iaload, 1) := by decide +kernel
theorem d_X3_at_25 : decode (yB m_X3_at) 25 = .ok (.goto 4, 3) := by decide +kernel
theorem d_X3_at_28 : decode (yB m_X3_at) 28 = .ok (.iconst 0, 1) := by decide +kernel
theorem d_X3_at_29 : decode (yB m_X3_at) 29 = .ok (.ireturn, 1) := by decide +kernel
def fn_X3_at (a0 : Nat) (v1 : Int32) (D : zD) : Option Int32 := (if v1 < 0 then ((some (0 : Int32))) else ((if (gI D a0 1) ≤ v1 then ((some (0 : Int32))) else ((if (500 : Int32) ≤ v1 then ((some (0 : Int32))) else (zck v1 500 <| (some (gI D (a0 + 1) v1.toNatClampNeg))))))))
theorem s_X3_at {X : zX} {Sh : zSh} {d : Nat} (hst : (zl X).stackTraces = false) (h0 : zSh0 Sh) (hd : 1 ≤ d) {a0 : Nat} {v1 : Int32} (h_a0 : a0 ∈ zI_3) {D : zD} : Sd X m_X3_at d [.ref a0, .int v1] (Sh, D) ((oP Sh D) (fn_X3_at a0 v1 D)) := by
  obtain ⟨d, rfl⟩ : ∃ e, d = e + 1 := ⟨d - 1, by omega⟩
  replace hd : 0 ≤ d := by omega
  refine z_body ck_X3_at rfl (Nat.le_of_ble_eq_true rfl) rfl hst ?_
  rw [fn_X3_at]
  show Rn X m_X3_at (d + 1) 0 [(0, .ref a0), (1, .int v1)] [] (Sh, D) _
  refine r_iload_n (pc := 0) 1 d_X3_at_0 rfl rfl ?_
  refine r_if_lt (f := (oP Sh D)) (pc := 1) 28 d_X3_at_1 (by decide) (fun c1 => ?_) (fun c1 => ?_)
  · refine r_iconst (pc := 28) (0 : Int32) d_X3_at_28 rfl ?_
    exact r_iret (pc := 29) rfl d_X3_at_29
  · refine r_iload_n (pc := 4) 1 d_X3_at_4 rfl rfl ?_
    refine r_aload_n (pc := 5) 0 d_X3_at_5 rfl rfl ?_
    refine q_gI (pc := 6) g_X3_15 (LK_3 h0 h_a0) rfl d_X3_at_6 ?_
    refine r_icmp_ge (f := (oP Sh D)) (pc := 9) 28 d_X3_at_9 (by decide) (fun c2 => ?_) (fun c2 => ?_)
    · refine r_iconst (pc := 28) (0 : Int32) d_X3_at_28 rfl ?_
      exact r_iret (pc := 29) rfl d_X3_at_29
    · refine r_iload_n (pc := 12) 1 d_X3_at_12 rfl rfl ?_
      refine r_sipush (pc := 13) (500 : Int32) d_X3_at_13 rfl ?_
      refine r_icmp_ge (f := (oP Sh D)) (pc := 16) 28 d_X3_at_16 (by decide) (fun c3 => ?_) (fun c3 => ?_)
      · refine r_iconst (pc := 28) (0 : Int32) d_X3_at_28 rfl ?_
        exact r_iret (pc := 29) rfl d_X3_at_29
      · refine r_aload_n (pc := 19) 0 d_X3_at_19 rfl rfl ?_
        refine r_getR (pc := 20) g_X3_9 (LK_3 h0 h_a0) rfl (LR_3_0 h0 h_a0) d_X3_at_20 ?_
        refine r_iload_n (pc := 23) 1 d_X3_at_23 rfl rfl ?_
        refine r_ck (f := (oP Sh D)) rfl (fun hc4 => ?_)
        refine q_iald (pc := 24) (j := v1.toNatClampNeg) (LA_3_0 h0 h_a0) hc4 rfl d_X3_at_24 ?_
        refine r_goto (pc := 25) 29 d_X3_at_25 (by decide) ?_
        exact r_iret (pc := 29) rfl d_X3_at_29
/-! CoveredSigns$Covers.beOne -/
theorem d_X3_beOne_0 : decode (yB m_X3_beOne) 0 = .ok (.aload_n 0, 1) := by decide +kernel
theorem d_X3_beOne_1 : decode (yB m_X3_beOne) 1 = .ok (.getfield 9, 3) := by decide +kernel
theorem d_X3_beOne_4 : decode (yB m_X3_beOne) 4 = .ok (.iconst 0, 1) := by decide +kernel
theorem d_X3_beOne_5 : decode (yB m_X3_beOne) 5 = .ok (.iload_n 1, 1) := by decide +kernel
theorem d_X3_beOne_6 : decode (yB m_X3_beOne) 6 = .ok (.iastore, 1) := by decide +kernel
theorem d_X3_beOne_7 : decode (yB m_X3_beOne) 7 = .ok (.aload_n 0, 1) := by decide +kernel
theorem d_X3_beOne_8 : decode (yB m_X3_beOne) 8 = .ok (.iconst 1, 1) := by decide +kernel
theorem d_X3_beOne_9 : decode (yB m_X3_beOne) 9 = .ok (.putfield 15, 3) := by decide +kernel
theorem d_X3_beOne_12 : decode (yB m_X3_beOne) 12 = .ok (.return_, 1) := by decide +kernel
def fn_X3_beOne (a0 : Nat) (v1 : Int32) (D : zD) : Option zD := zlet (sI D (a0 + 1) 0 v1) fun D1 => zlet (sI D1 a0 1 (1 : Int32)) fun D2 => (some D2)
theorem s_X3_beOne {X : zX} {Sh : zSh} {d : Nat} (hst : (zl X).stackTraces = false) (h0 : zSh0 Sh) (hd : 1 ≤ d) {a0 : Nat} {v1 : Int32} (h_a0 : a0 ∈ zI_3) {D : zD} : Sd X m_X3_beOne d [.ref a0, .int v1] (Sh, D) ((oV Sh) (fn_X3_beOne a0 v1 D)) := by
  obtain ⟨d, rfl⟩ : ∃ e, d = e + 1 := ⟨d - 1, by omega⟩
  replace hd : 0 ≤ d := by omega
  refine z_body ck_X3_beOne rfl (Nat.le_of_ble_eq_true rfl) rfl hst ?_
  rw [fn_X3_beOne]
  show Rn X m_X3_beOne (d + 1) 0 [(0, .ref a0), (1, .int v1)] [] (Sh, D) _
  refine r_aload_n (pc := 0) 0 d_X3_beOne_0 rfl rfl ?_
  refine r_getR (pc := 1) g_X3_9 (LK_3 h0 h_a0) rfl (LR_3_0 h0 h_a0) d_X3_beOne_1 ?_
  refine r_iconst (pc := 4) (0 : Int32) d_X3_beOne_4 rfl ?_
  refine r_iload_n (pc := 5) 1 d_X3_beOne_5 rfl rfl ?_
  refine q_iast (pc := 6) (j := 0) (LA_3_0 h0 h_a0) (by unfold vp_in; decide) rfl  d_X3_beOne_6 ?_
  refine r_letD (f := (oV Sh)) (fun D1 => ?_)
  refine r_aload_n (pc := 7) 0 d_X3_beOne_7 rfl rfl ?_
  refine r_iconst (pc := 8) (1 : Int32) d_X3_beOne_8 rfl ?_
  refine r_putI (pc := 9) p_X3_15 (LK_3 h0 h_a0) rfl (Or.inl rfl) d_X3_beOne_9 ?_
  refine r_letD (f := (oV Sh)) (fun D2 => ?_)
  exact r_vret (pc := 12) rfl d_X3_beOne_12
/-! CoveredSigns$Covers.add -/
theorem d_X3_add_0 : decode (yB m_X3_add) 0 = .ok (.aload_n 0, 1) := by decide +kernel
theorem d_X3_add_1 : decode (yB m_X3_add) 1 = .ok (.getfield 15, 3) := by decide +kernel
theorem d_X3_add_4 : decode (yB m_X3_add) 4 = .ok (.ifCond .lt 13, 3) := by decide +kernel
theorem d_X3_add_7 : decode (yB m_X3_add) 7 = .ok (.aload_n 0, 1) := by decide +kernel
theorem d_X3_add_8 : decode (yB m_X3_add) 8 = .ok (.getfield 15, 3) := by decide +kernel
theorem d_X3_add_11 : decode (yB m_X3_add) 11 = .ok (.sipush 500, 3) := by decide +kernel
theorem d_X3_add_14 : decode (yB m_X3_add) 14 = .ok (.if_icmp .lt 5, 3) := by decide +kernel
theorem d_X3_add_17 : decode (yB m_X3_add) 17 = .ok (.iconst 0, 1) := by decide +kernel
theorem d_X3_add_18 : decode (yB m_X3_add) 18 = .ok (.ireturn, 1) := by decide +kernel
theorem d_X3_add_19 : decode (yB m_X3_add) 19 = .ok (.aload_n 0, 1) := by decide +kernel
theorem d_X3_add_20 : decode (yB m_X3_add) 20 = .ok (.getfield 9, 3) := by decide +kernel
theorem d_X3_add_23 : decode (yB m_X3_add) 23 = .ok (.aload_n 0, 1) := by decide +kernel
theorem d_X3_add_24 : decode (yB m_X3_add) 24 = .ok (.getfield 15, 3) := by decide +kernel
theorem d_X3_add_27 : decode (yB m_X3_add) 27 = .ok (.iload_n 1, 1) := by decide +kernel
theorem d_X3_add_28 : decode (yB m_X3_add) 28 = .ok (.iastore, 1) := by decide +kernel
theorem d_X3_add_29 : decode (yB m_X3_add) 29 = .ok (.aload_n 0, 1) := by decide +kernel
theorem d_X3_add_30 : decode (yB m_X3_add) 30 = .ok (.dup, 1) := by decide +kernel
theorem d_X3_add_31 : decode (yB m_X3_add) 31 = .ok (.getfield 15, 3) := by decide +kernel
theorem d_X3_add_34 : decode (yB m_X3_add) 34 = .ok (.iconst 1, 1) := by decide +kernel
theorem d_X3_add_35 : decode (yB m_X3_add) 35 = .ok (.iadd, 1) := by decide +kernel
theorem d_X3_add_36 : decode (yB m_X3_add) 36 = .ok (.putfield 15, 3) := by decide +kernel
theorem d_X3_add_39 : decode (yB m_X3_add) 39 = .ok (.iconst 1, 1) := by decide +kernel
theorem d_X3_add_40 : decode (yB m_X3_add) 40 = .ok (.ireturn, 1) := by decide +kernel
def fn_X3_add (a0 : Nat) (v1 : Int32) (D : zD) : Option (Int32 × zD) := (if (gI D a0 1) < 0 then ((some ((0 : Int32), D))) else ((if (gI D a0 1) < (500 : Int32) then (zck (gI D a0 1) 500 <| zlet (sI D (a0 + 1) (gI D a0 1).toNatClampNeg v1) fun D4 => zlet (sI D4 a0 1 ((gI D4 a0 1) + (1 : Int32))) fun D5 => (some ((1 : Int32), D5))) else ((some ((0 : Int32), D))))))
theorem s_X3_add {X : zX} {Sh : zSh} {d : Nat} (hst : (zl X).stackTraces = false) (h0 : zSh0 Sh) (hd : 1 ≤ d) {a0 : Nat} {v1 : Int32} (h_a0 : a0 ∈ zI_3) {D : zD} : Sd X m_X3_add d [.ref a0, .int v1] (Sh, D) ((oI Sh) (fn_X3_add a0 v1 D)) := by
  obtain ⟨d, rfl⟩ : ∃ e, d = e + 1 := ⟨d - 1, by omega⟩
  replace hd : 0 ≤ d := by omega
  refine z_body ck_X3_add rfl (Nat.le_of_ble_eq_true rfl) rfl hst ?_
  rw [fn_X3_add]
  show Rn X m_X3_add (d + 1) 0 [(0, .ref a0), (1, .int v1)] [] (Sh, D) _
  refine r_aload_n (pc := 0) 0 d_X3_add_0 rfl rfl ?_
  refine q_gI (pc := 1) g_X3_15 (LK_3 h0 h_a0) rfl d_X3_add_1 ?_
  refine r_if_lt (f := (oI Sh)) (pc := 4) 17 d_X3_add_4 (by decide) (fun c1 => ?_) (fun c1 => ?_)
  · refine r_iconst (pc := 17) (0 : Int32) d_X3_add_17 rfl ?_
    exact r_zret (pc := 18) rfl (by decide) d_X3_add_18
  · refine r_aload_n (pc := 7) 0 d_X3_add_7 rfl rfl ?_
    refine q_gI (pc := 8) g_X3_15 (LK_3 h0 h_a0) rfl d_X3_add_8 ?_
    refine r_sipush (pc := 11) (500 : Int32) d_X3_add_11 rfl ?_
    refine r_icmp_lt (f := (oI Sh)) (pc := 14) 19 d_X3_add_14 (by decide) (fun c2 => ?_) (fun c2 => ?_)
    · refine r_aload_n (pc := 19) 0 d_X3_add_19 rfl rfl ?_
      refine r_getR (pc := 20) g_X3_9 (LK_3 h0 h_a0) rfl (LR_3_0 h0 h_a0) d_X3_add_20 ?_
      refine r_aload_n (pc := 23) 0 d_X3_add_23 rfl rfl ?_
      refine q_gI (pc := 24) g_X3_15 (LK_3 h0 h_a0) rfl d_X3_add_24 ?_
      refine r_iload_n (pc := 27) 1 d_X3_add_27 rfl rfl ?_
      refine r_ck (f := (oI Sh)) rfl (fun hc3 => ?_)
      refine q_iast (pc := 28) (j := (gI D a0 1).toNatClampNeg) (LA_3_0 h0 h_a0) hc3 rfl  d_X3_add_28 ?_
      refine r_letD (f := (oI Sh)) (fun D4 => ?_)
      refine r_aload_n (pc := 29) 0 d_X3_add_29 rfl rfl ?_
      refine r_dup (pc := 30) d_X3_add_30 rfl ?_
      refine q_gI (pc := 31) g_X3_15 (LK_3 h0 h_a0) rfl d_X3_add_31 ?_
      refine r_iconst (pc := 34) (1 : Int32) d_X3_add_34 rfl ?_
      refine r_iadd (pc := 35) d_X3_add_35 ?_
      refine r_putI (pc := 36) p_X3_15 (LK_3 h0 h_a0) rfl (Or.inl rfl) d_X3_add_36 ?_
      refine r_letD (f := (oI Sh)) (fun D5 => ?_)
      refine r_iconst (pc := 39) (1 : Int32) d_X3_add_39 rfl ?_
      exact r_zret (pc := 40) rfl (by decide) d_X3_add_40
    · refine r_iconst (pc := 17) (0 : Int32) d_X3_add_17 rfl ?_
      exact r_zret (pc := 18) rfl (by decide) d_X3_add_18
/-! CoveredSigns$Covers.copyFrom -/
theorem d_X3_copyFrom_0 : decode (yB m_X3_copyFrom) 0 = .ok (.aload_n 1, 1) := by decide +kernel
theorem d_X3_copyFrom_1 : decode (yB m_X3_copyFrom) 1 = .ok (.ifnull 38, 3) := by decide +kernel
theorem d_X3_copyFrom_4 : decode (yB m_X3_copyFrom) 4 = .ok (.aload_n 0, 1) := by decide +kernel
theorem d_X3_copyFrom_5 : decode (yB m_X3_copyFrom) 5 = .ok (.iconst 0, 1) := by decide +kernel
theorem d_X3_copyFrom_6 : decode (yB m_X3_copyFrom) 6 = .ok (.aload_n 1, 1) := by decide +kernel
theorem d_X3_copyFrom_7 : decode (yB m_X3_copyFrom) 7 = .ok (.getfield 15, 3) := by decide +kernel
theorem d_X3_copyFrom_10 : decode (yB m_X3_copyFrom) 10 = .ok (.sipush 500, 3) := by decide +kernel
theorem d_X3_copyFrom_13 : decode (yB m_X3_copyFrom) 13 = .ok (.invokestatic 19, 3) := by decide +kernel
theorem d_X3_copyFrom_16 : decode (yB m_X3_copyFrom) 16 = .ok (.invokestatic 25, 3) := by decide +kernel
theorem d_X3_copyFrom_19 : decode (yB m_X3_copyFrom) 19 = .ok (.putfield 15, 3) := by decide +kernel
theorem d_X3_copyFrom_22 : decode (yB m_X3_copyFrom) 22 = .ok (.aload_n 1, 1) := by decide +kernel
theorem d_X3_copyFrom_23 : decode (yB m_X3_copyFrom) 23 = .ok (.getfield 9, 3) := by decide +kernel
theorem d_X3_copyFrom_26 : decode (yB m_X3_copyFrom) 26 = .ok (.iconst 0, 1) := by decide +kernel
theorem d_X3_copyFrom_27 : decode (yB m_X3_copyFrom) 27 = .ok (.aload_n 0, 1) := by decide +kernel
theorem d_X3_copyFrom_28 : decode (yB m_X3_copyFrom) 28 = .ok (.getfield 9, 3) := by decide +kernel
theorem d_X3_copyFrom_31 : decode (yB m_X3_copyFrom) 31 = .ok (.iconst 0, 1) := by decide +kernel
theorem d_X3_copyFrom_32 : decode (yB m_X3_copyFrom) 32 = .ok (.aload_n 0, 1) := by decide +kernel
theorem d_X3_copyFrom_33 : decode (yB m_X3_copyFrom) 33 = .ok (.getfield 15, 3) := by decide +kernel
theorem d_X3_copyFrom_36 : decode (yB m_X3_copyFrom) 36 = .ok (.invokestatic 28, 3) := by decide +kernel
theorem d_X3_copyFrom_39 : decode (yB m_X3_copyFrom) 39 = .ok (.return_, 1) := by decide +kernel
def fn_X3_copyFrom (a0 : Nat) (a1 : Nat) (D : zD) : Option zD := zlet (sI D a0 1 (zmx (0 : Int32) (zmn (gI D a1 1) (500 : Int32)))) fun D1 => zcp (0 : Int32) (0 : Int32) (gI D1 a0 1) 500 500 <| zlet (sC D1 (a1 + 1) (a0 + 1) (0 : Int32).toNatClampNeg (0 : Int32).toNatClampNeg (gI D1 a0 1).toNatClampNeg) fun D3 => (some D3)
theorem s_X3_copyFrom {X : zX} {Sh : zSh} {d : Nat} (hst : (zl X).stackTraces = false) (h0 : zSh0 Sh) (hd : 5 ≤ d) {a0 : Nat} {a1 : Nat} (h_a0 : a0 ∈ zI_3) (h_a1 : a1 ∈ zI_3) {D : zD} : Sd X m_X3_copyFrom d [.ref a0, .ref a1] (Sh, D) ((oV Sh) (fn_X3_copyFrom a0 a1 D)) := by
  obtain ⟨d, rfl⟩ : ∃ e, d = e + 1 := ⟨d - 1, by omega⟩
  replace hd : 4 ≤ d := by omega
  refine z_body ck_X3_copyFrom rfl (Nat.le_of_ble_eq_true rfl) rfl hst ?_
  rw [fn_X3_copyFrom]
  show Rn X m_X3_copyFrom (d + 1) 0 [(0, .ref a0), (1, .ref a1)] [] (Sh, D) _
  refine r_aload_n (pc := 0) 1 d_X3_copyFrom_0 rfl rfl ?_
  refine r_null (pc := 1) d_X3_copyFrom_1 ?_
  refine r_aload_n (pc := 4) 0 d_X3_copyFrom_4 rfl rfl ?_
  refine r_iconst (pc := 5) (0 : Int32) d_X3_copyFrom_5 rfl ?_
  refine r_aload_n (pc := 6) 1 d_X3_copyFrom_6 rfl rfl ?_
  refine q_gI (pc := 7) g_X3_15 (LK_3 h0 h_a1) rfl d_X3_copyFrom_7 ?_
  refine r_sipush (pc := 10) (500 : Int32) d_X3_copyFrom_10 rfl ?_
  refine r_mmin (pc := 13) ml_X3_19 (by omega) (Nat.le_of_ble_eq_true rfl) d_X3_copyFrom_13 ?_
  refine r_mmax (pc := 16) ml_X3_25 (by omega) (Nat.le_of_ble_eq_true rfl) d_X3_copyFrom_16 ?_
  refine r_putI (pc := 19) p_X3_15 (LK_3 h0 h_a0) rfl (Or.inl rfl) d_X3_copyFrom_19 ?_
  refine r_letD (f := (oV Sh)) (fun D1 => ?_)
  refine r_aload_n (pc := 22) 1 d_X3_copyFrom_22 rfl rfl ?_
  refine r_getR (pc := 23) g_X3_9 (LK_3 h0 h_a1) rfl (LR_3_0 h0 h_a1) d_X3_copyFrom_23 ?_
  refine r_iconst (pc := 26) (0 : Int32) d_X3_copyFrom_26 rfl ?_
  refine r_aload_n (pc := 27) 0 d_X3_copyFrom_27 rfl rfl ?_
  refine r_getR (pc := 28) g_X3_9 (LK_3 h0 h_a0) rfl (LR_3_0 h0 h_a0) d_X3_copyFrom_28 ?_
  refine r_iconst (pc := 31) (0 : Int32) d_X3_copyFrom_31 rfl ?_
  refine r_aload_n (pc := 32) 0 d_X3_copyFrom_32 rfl rfl ?_
  refine q_gI (pc := 33) g_X3_15 (LK_3 h0 h_a0) rfl d_X3_copyFrom_33 ?_
  refine r_cp (f := (oV Sh)) rfl (fun hc2 => ?_)
  refine q_acopy (pc := 36) ml_X3_28 (LA_3_0 h0 h_a1) (LA_3_0 h0 h_a0) h0.2.2 hc2 (by omega) (Nat.le_of_ble_eq_true rfl) d_X3_copyFrom_36 ?_
  refine r_letD (f := (oV Sh)) (fun D3 => ?_)
  exact r_vret (pc := 39) rfl d_X3_copyFrom_39
/-! CoveredSigns$Covers.isBefore -/
theorem d_X3_isBefore_0 : decode (yB m_X3_isBefore) 0 = .ok (.iload_n 0, 1) := by decide +kernel
theorem d_X3_isBefore_1 : decode (yB m_X3_isBefore) 1 = .ok (.invokestatic 34, 3) := by decide +kernel
theorem d_X3_isBefore_4 : decode (yB m_X3_isBefore) 4 = .ok (.iload_n 1, 1) := by decide +kernel
theorem d_X3_isBefore_5 : decode (yB m_X3_isBefore) 5 = .ok (.invokestatic 34, 3) := by decide +kernel
theorem d_X3_isBefore_8 : decode (yB m_X3_isBefore) 8 = .ok (.isub, 1) := by decide +kernel
theorem d_X3_isBefore_9 : decode (yB m_X3_isBefore) 9 = .ok (.istore_n 2, 1) := by decide +kernel
theorem d_X3_isBefore_10 : decode (yB m_X3_isBefore) 10 = .ok (.iload_n 2, 1) := by decide +kernel
theorem d_X3_isBefore_11 : decode (yB m_X3_isBefore) 11 = .ok (.ifCond .lt 12, 3) := by decide +kernel
theorem d_X3_isBefore_14 : decode (yB m_X3_isBefore) 14 = .ok (.iload_n 2, 1) := by decide +kernel
theorem d_X3_isBefore_15 : decode (yB m_X3_isBefore) 15 = .ok (.ifCond .ne 12, 3) := by decide +kernel
theorem d_X3_isBefore_18 : decode (yB m_X3_isBefore) 18 = .ok (.iload_n 0, 1) := by decide +kernel
theorem d_X3_isBefore_19 : decode (yB m_X3_isBefore) 19 = .ok (.iload_n 1, 1) := by decide +kernel
theorem d_X3_isBefore_20 : decode (yB m_X3_isBefore) 20 = .ok (.if_icmp .ge 7, 3) := by decide +kernel
theorem d_X3_isBefore_23 : decode (yB m_X3_isBefore) 23 = .ok (.iconst 1, 1) := by decide +kernel
theorem d_X3_isBefore_24 : decode (yB m_X3_isBefore) 24 = .ok (.goto 4, 3) := by decide +kernel
theorem d_X3_isBefore_27 : decode (yB m_X3_isBefore) 27 = .ok (.iconst 0, 1) := by decide +kernel
theorem d_X3_isBefore_28 : decode (yB m_X3_isBefore) 28 = .ok (.ireturn, 1) := by decide +kernel
def fn_X3_isBefore (v0 : Int32) (v1 : Int32) : Option Int32 := (fn_JI_bitCount v0).bind fun x1 => (fn_JI_bitCount v1).bind fun x2 => zlet (x1 - x2) fun x3 => (if x3 < 0 then ((some (1 : Int32))) else ((if x3 = 0 then ((if v1 ≤ v0 then ((some (0 : Int32))) else ((some (1 : Int32))))) else ((some (0 : Int32))))))
theorem s_X3_isBefore {X : zX} {Sh : zSh} {d : Nat} (hst : (zl X).stackTraces = false) (h0 : zSh0 Sh) (hd : 2 ≤ d) {v0 : Int32} {v1 : Int32} {D : zD} : Sd X m_X3_isBefore d [.int v0, .int v1] (Sh, D) ((oP Sh D) (fn_X3_isBefore v0 v1)) := by
  obtain ⟨d, rfl⟩ : ∃ e, d = e + 1 := ⟨d - 1, by omega⟩
  replace hd : 1 ≤ d := by omega
  refine z_body ck_X3_isBefore rfl (Nat.le_of_ble_eq_true rfl) rfl hst ?_
  rw [fn_X3_isBefore]
  show Rn X m_X3_isBefore (d + 1) 0 [(0, .int v0), (1, .int v1)] [] (Sh, D) _
  refine r_iload_n (pc := 0) 0 d_X3_isBefore_0 rfl rfl ?_
  refine q_cP (f := (oP Sh D)) (av := [.int v0]) (st := []) (z_runS ck_JI_bitCount rfl ml_X3_34 cs_JI_bitCount rfl (Nat.le_of_ble_eq_true rfl) d_X3_isBefore_1) (s_JI_bitCount hst h0 (by omega)) kp_P (fun x1 _ => ?_)
  refine r_iload_n (pc := 4) 1 d_X3_isBefore_4 rfl rfl ?_
  refine q_cP (f := (oP Sh D)) (av := [.int v1]) (st := [.int x1]) (z_runS ck_JI_bitCount rfl ml_X3_34 cs_JI_bitCount rfl (Nat.le_of_ble_eq_true rfl) d_X3_isBefore_5) (s_JI_bitCount hst h0 (by omega)) kp_P (fun x2 _ => ?_)
  refine r_isub (pc := 8) d_X3_isBefore_8 ?_
  refine r_leti (f := (oP Sh D)) (fun x3 => ?_)
  refine r_istore_n (pc := 9) (ls' := [(2, .int x3), (0, .int v0), (1, .int v1)]) d_X3_isBefore_9 rfl (Nat.le_of_ble_eq_true rfl) rfl ?_
  refine r_iload_n (pc := 10) 0 d_X3_isBefore_10 rfl rfl ?_
  refine r_if_lt (f := (oP Sh D)) (pc := 11) 23 d_X3_isBefore_11 (by decide) (fun c4 => ?_) (fun c4 => ?_)
  · refine r_iconst (pc := 23) (1 : Int32) d_X3_isBefore_23 rfl ?_
    refine r_goto (pc := 24) 28 d_X3_isBefore_24 (by decide) ?_
    exact r_zret (pc := 28) rfl (by decide) d_X3_isBefore_28
  · refine r_iload_n (pc := 14) 0 d_X3_isBefore_14 rfl rfl ?_
    refine r_if_ne (f := (oP Sh D)) (pc := 15) 27 d_X3_isBefore_15 (by decide) (fun c5 => ?_) (fun c5 => ?_)
    · refine r_iconst (pc := 27) (0 : Int32) d_X3_isBefore_27 rfl ?_
      exact r_zret (pc := 28) rfl (by decide) d_X3_isBefore_28
    · refine r_iload_n (pc := 18) 1 d_X3_isBefore_18 rfl rfl ?_
      refine r_iload_n (pc := 19) 2 d_X3_isBefore_19 rfl rfl ?_
      refine r_icmp_ge (f := (oP Sh D)) (pc := 20) 27 d_X3_isBefore_20 (by decide) (fun c6 => ?_) (fun c6 => ?_)
      · refine r_iconst (pc := 27) (0 : Int32) d_X3_isBefore_27 rfl ?_
        exact r_zret (pc := 28) rfl (by decide) d_X3_isBefore_28
      · refine r_iconst (pc := 23) (1 : Int32) d_X3_isBefore_23 rfl ?_
        refine r_goto (pc := 24) 28 d_X3_isBefore_24 (by decide) ?_
        exact r_zret (pc := 28) rfl (by decide) d_X3_isBefore_28
/-! CoveredSigns$Covers.sort -/
theorem d_X3_sort_0 : decode (yB m_X3_sort) 0 = .ok (.sipush 364, 3) := by decide +kernel
theorem d_X3_sort_3 : decode (yB m_X3_sort) 3 = .ok (.istore_n 1, 1) := by decide +kernel
theorem d_X3_sort_4 : decode (yB m_X3_sort) 4 = .ok (.iload_n 1, 1) := by decide +kernel
theorem d_X3_sort_5 : decode (yB m_X3_sort) 5 = .ok (.ifCond .le 98, 3) := by decide +kernel
theorem d_X3_sort_8 : decode (yB m_X3_sort) 8 = .ok (.iload_n 1, 1) := by decide +kernel
theorem d_X3_sort_9 : decode (yB m_X3_sort) 9 = .ok (.istore_n 2, 1) := by decide +kernel
theorem d_X3_sort_10 : decode (yB m_X3_sort) 10 = .ok (.iload_n 2, 1) := by decide +kernel
theorem d_X3_sort_11 : decode (yB m_X3_sort) 11 = .ok (.aload_n 0, 1) := by decide +kernel
theorem d_X3_sort_12 : decode (yB m_X3_sort) 12 = .ok (.getfield 15, 3) := by decide +kernel
theorem d_X3_sort_15 : decode (yB m_X3_sort) 15 = .ok (.if_icmp .ge 81, 3) := by decide +kernel
theorem d_X3_sort_18 : decode (yB m_X3_sort) 18 = .ok (.iload_n 2, 1) := by decide +kernel
theorem d_X3_sort_19 : decode (yB m_X3_sort) 19 = .ok (.sipush 500, 3) := by decide +kernel
theorem d_X3_sort_22 : decode (yB m_X3_sort) 22 = .ok (.if_icmp .ge 74, 3) := by decide +kernel
theorem d_X3_sort_25 : decode (yB m_X3_sort) 25 = .ok (.aload_n 0, 1) := by decide +kernel
theorem d_X3_sort_26 : decode (yB m_X3_sort) 26 = .ok (.getfield 9, 3) := by decide +kernel
theorem d_X3_sort_29 : decode (yB m_X3_sort) 29 = .ok (.iload_n 2, 1) := by decide +kernel
theorem d_X3_sort_30 : decode (yB m_X3_sort) 30 = .ok (.iaload, 1) := by decide +kernel
theorem d_X3_sort_31 : decode (yB m_X3_sort) 31 = .ok (.istore_n 3, 1) := by decide +kernel
theorem d_X3_sort_32 : decode (yB m_X3_sort) 32 = .ok (.iload_n 2, 1) := by decide +kernel
theorem d_X3_sort_33 : decode (yB m_X3_sort) 33 = .ok (.istore 4, 2) := by decide +kernel
theorem d_X3_sort_35 : decode (yB m_X3_sort) 35 = .ok (.iload 4, 2) := by decide +kernel
theorem d_X3_sort_37 : decode (yB m_X3_sort) 37 = .ok (.iload_n 1, 1) := by decide +kernel
theorem d_X3_sort_38 : decode (yB m_X3_sort) 38 = .ok (.if_icmp .lt 44, 3) := by decide +kernel
theorem d_X3_sort_41 : decode (yB m_X3_sort) 41 = .ok (.iload_n 3, 1) := by decide +kernel
theorem d_X3_sort_42 : decode (yB m_X3_sort) 42 = .ok (.aload_n 0, 1) := by decide +kernel
theorem d_X3_sort_43 : decode (yB m_X3_sort) 43 = .ok (.getfield 9, 3) := by decide +kernel
theorem d_X3_sort_46 : decode (yB m_X3_sort) 46 = .ok (.iload 4, 2) := by decide +kernel
theorem d_X3_sort_48 : decode (yB m_X3_sort) 48 = .ok (.iload_n 1, 1) := by decide +kernel
theorem d_X3_sort_49 : decode (yB m_X3_sort) 49 = .ok (.isub, 1) := by decide +kernel
theorem d_X3_sort_50 : decode (yB m_X3_sort) 50 = .ok (.iaload, 1) := by decide +kernel
theorem d_X3_sort_51 : decode (yB m_X3_sort) 51 = .ok (.invokestatic 40, 3) := by decide +kernel
theorem d_X3_sort_54 : decode (yB m_X3_sort) 54 = .ok (.ifCond .eq 28, 3) := by decide +kernel
theorem d_X3_sort_57 : decode (yB m_X3_sort) 57 = .ok (.aload_n 0, 1) := by decide +kernel
theorem d_X3_sort_58 : decode (yB m_X3_sort) 58 = .ok (.getfield 9, 3) := by decide +kernel
theorem d_X3_sort_61 : decode (yB m_X3_sort) 61 = .ok (.iload 4, 2) := by decide +kernel
theorem d_X3_sort_63 : decode (yB m_X3_sort) 63 = .ok (.aload_n 0, 1) := by decide +kernel
theorem d_X3_sort_64 : decode (yB m_X3_sort) 64 = .ok (.getfield 9, 3) := by decide +kernel
theorem d_X3_sort_67 : decode (yB m_X3_sort) 67 = .ok (.iload 4, 2) := by decide +kernel
theorem d_X3_sort_69 : decode (yB m_X3_sort) 69 = .ok (.iload_n 1, 1) := by decide +kernel
theorem d_X3_sort_70 : decode (yB m_X3_sort) 70 = .ok (.isub, 1) := by decide +kernel
theorem d_X3_sort_71 : decode (yB m_X3_sort) 71 = .ok (.iaload, 1) := by decide +kernel
theorem d_X3_sort_72 : decode (yB m_X3_sort) 72 = .ok (.iastore, 1) := by decide +kernel
theorem d_X3_sort_73 : decode (yB m_X3_sort) 73 = .ok (.iload 4, 2) := by decide +kernel
theorem d_X3_sort_75 : decode (yB m_X3_sort) 75 = .ok (.iload_n 1, 1) := by decide +kernel
theorem d_X3_sort_76 : decode (yB m_X3_sort) 76 = .ok (.isub, 1) := by decide +kernel
theorem d_X3_sort_77 : decode (yB m_X3_sort) 77 = .ok (.istore 4, 2) := by decide +kernel
theorem d_X3_sort_79 : decode (yB m_X3_sort) 79 = .ok (.goto (-44), 3) := by decide +kernel
theorem d_X3_sort_82 : decode (yB m_X3_sort) 82 = .ok (.aload_n 0, 1) := by decide +kernel
theorem d_X3_sort_83 : decode (yB m_X3_sort) 83 = .ok (.getfield 9, 3) := by decide +kernel
theorem d_X3_sort_86 : decode (yB m_X3_sort) 86 = .ok (.iload 4, 2) := by decide +kernel
theorem d_X3_sort_88 : decode (yB m_X3_sort) 88 = .ok (.iload_n 3, 1) := by decide +kernel
theorem d_X3_sort_89 : decode (yB m_X3_sort) 89 = .ok (.iastore, 1) := by decide +kernel
theorem d_X3_sort_90 : decode (yB m_X3_sort) 90 = .ok (.iinc 2 1, 3) := by decide +kernel
theorem d_X3_sort_93 : decode (yB m_X3_sort) 93 = .ok (.goto (-83), 3) := by decide +kernel
theorem d_X3_sort_96 : decode (yB m_X3_sort) 96 = .ok (.iload_n 1, 1) := by decide +kernel
theorem d_X3_sort_97 : decode (yB m_X3_sort) 97 = .ok (.iconst 3, 1) := by decide +kernel
theorem d_X3_sort_98 : decode (yB m_X3_sort) 98 = .ok (.idiv, 1) := by decide +kernel
theorem d_X3_sort_99 : decode (yB m_X3_sort) 99 = .ok (.istore_n 1, 1) := by decide +kernel
theorem d_X3_sort_100 : decode (yB m_X3_sort) 100 = .ok (.goto (-96), 3) := by decide +kernel
theorem d_X3_sort_103 : decode (yB m_X3_sort) 103 = .ok (.return_, 1) := by decide +kernel
def fn_X3_sort_82 (a0 : Nat) (k10 : Int32 → Int32 → zD → Option zD) (v1 : Int32) (v2 : Int32) (v3 : Int32) (v4 : Int32) (D : zD) : Option zD := zck v4 500 <| zlet (sI D (a0 + 1) v4.toNatClampNeg v3) fun D10 => (k10 v1 (v2 + (1 : Int32)) D10)
def fn_X3_sort_35 (a0 : Nat) (k10 : Int32 → Int32 → zD → Option zD) : Nat → Int32 → Int32 → Int32 → Int32 → zD → Option zD
  | 0, _, _, _, _, _ => none
  | n + 1, v1, v2, v3, v4, D => (if v4 < v1 then ((fn_X3_sort_82 a0 k10 v1 v2 v3 v4 D)) else (zck (v4 - v1) 500 <| (fn_X3_isBefore v3 (gI D (a0 + 1) (v4 - v1).toNatClampNeg)).bind fun x12 => (if x12 = 0 then ((fn_X3_sort_82 a0 k10 v1 v2 v3 v4 D)) else (zck (v4 - v1) 500 <| zck v4 500 <| zlet (sI D (a0 + 1) v4.toNatClampNeg (gI D (a0 + 1) (v4 - v1).toNatClampNeg)) fun D16 => zlet (v4 - v1) fun x17 => ((fn_X3_sort_35 a0 k10 n) v1 v2 v3 x17 D16)))))
def fn_X3_sort_10 (a0 : Nat) (k4 : Int32 → zD → Option zD) : Nat → Int32 → Int32 → zD → Option zD
  | 0, _, _, _ => none
  | n + 1, v1, v2, D => (if (gI D a0 1) ≤ v2 then (zdv (3 : Int32) <| zlet (v1 / (3 : Int32)) fun x3 => (k4 x3 D)) else ((if (500 : Int32) ≤ v2 then (zdv (3 : Int32) <| zlet (v1 / (3 : Int32)) fun x5 => (k4 x5 D)) else (zck v2 500 <| zlet (gI D (a0 + 1) v2.toNatClampNeg) fun x7 => (fn_X3_sort_35 a0 (fn_X3_sort_10 a0 k4 n) zFU v1 v2 x7 v2 D)))))
def fn_X3_sort_4 (a0 : Nat) : Nat → Int32 → zD → Option zD
  | 0, _, _ => none
  | n + 1, v1, D => (if v1 ≤ 0 then ((some D)) else ((fn_X3_sort_10 a0 (fn_X3_sort_4 a0 n) zFU v1 v1 D)))
def fn_X3_sort (a0 : Nat) (D : zD) : Option zD := (fn_X3_sort_4 a0 zFU (364 : Int32) D)
theorem s_X3_sort_82 {X : zX} {Sh : zSh} {d : Nat} (hst : (zl X).stackTraces = false) (h0 : zSh0 Sh) (hd : 2 ≤ d) {a0 : Nat} (h_a0 : a0 ∈ zI_3) (k10 : Int32 → Int32 → zD → Option zD) (hk10 : ∀ (v1 : Int32) (v2 : Int32) (D : zD) , Rn X m_X3_sort (d + 1) 10 [(0, .ref a0), (1, .int v1), (2, .int v2)] [] (Sh, D) ((oV Sh) (k10 v1 v2 D))) (v1 : Int32) (v2 : Int32) (v3 : Int32) (v4 : Int32) (D : zD)  : Rn X m_X3_sort (d + 1) 82 [(0, .ref a0), (1, .int v1), (2, .int v2), (3, .int v3), (4, .int v4)] [] (Sh, D) ((oV Sh) (fn_X3_sort_82 a0 k10 v1 v2 v3 v4 D)) := by
  rw [fn_X3_sort_82]
  refine r_aload_n (pc := 82) 0 d_X3_sort_82 rfl rfl ?_
  refine r_getR (pc := 83) g_X3_9 (LK_3 h0 h_a0) rfl (LR_3_0 h0 h_a0) d_X3_sort_83 ?_
  refine r_iload (pc := 86) 4 d_X3_sort_86 rfl ?_
  refine r_iload_n (pc := 88) 3 d_X3_sort_88 rfl rfl ?_
  refine r_ck (f := (oV Sh)) rfl (fun hc9 => ?_)
  refine q_iast (pc := 89) (j := v4.toNatClampNeg) (LA_3_0 h0 h_a0) hc9 rfl  d_X3_sort_89 ?_
  refine r_letD (f := (oV Sh)) (fun D10 => ?_)
  refine r_iinc (pc := 90) ((v2 + (1 : Int32))) 2 (ls' := [(2, .int (v2 + (1 : Int32))), (0, .ref a0), (1, .int v1), (3, .int v3), (4, .int v4)]) d_X3_sort_90 rfl rfl (Nat.le_of_ble_eq_true rfl) rfl ?_
  refine r_goto (pc := 93) 10 d_X3_sort_93 (by decide) ?_
  refine r_pick [1, 2, 0] (ls' := [(0, .ref a0), (1, .int v1), (2, .int (v2 + (1 : Int32)))]) rfl ?_
  exact hk10 v1 (v2 + (1 : Int32)) D10 
theorem s_X3_sort_35 {X : zX} {Sh : zSh} {d : Nat} (hst : (zl X).stackTraces = false) (h0 : zSh0 Sh) (hd : 2 ≤ d) {a0 : Nat} (h_a0 : a0 ∈ zI_3) (k10 : Int32 → Int32 → zD → Option zD) (hk10 : ∀ (v1 : Int32) (v2 : Int32) (D : zD) , Rn X m_X3_sort (d + 1) 10 [(0, .ref a0), (1, .int v1), (2, .int v2)] [] (Sh, D) ((oV Sh) (k10 v1 v2 D))) : ∀ (n : Nat) (v1 : Int32) (v2 : Int32) (v3 : Int32) (v4 : Int32) (D : zD) , Rn X m_X3_sort (d + 1) 35 [(0, .ref a0), (1, .int v1), (2, .int v2), (3, .int v3), (4, .int v4)] [] (Sh, D) ((oV Sh) (fn_X3_sort_35 a0 k10 n v1 v2 v3 v4 D)) := by
  intro n
  induction n with
  | zero => intro v1 v2 v3 v4 D; exact Rn_none rfl
  | succ n hk35 =>
    intro v1 v2 v3 v4 D
    rw [fn_X3_sort_35]
    refine r_iload (pc := 35) 4 d_X3_sort_35 rfl ?_
    refine r_iload_n (pc := 37) 1 d_X3_sort_37 rfl rfl ?_
    refine r_icmp_lt (f := (oV Sh)) (pc := 38) 82 d_X3_sort_38 (by decide) (fun c8 => ?_) (fun c8 => ?_)
    · refine r_pick [0, 1, 2, 3, 4] (ls' := [(0, .ref a0), (1, .int v1), (2, .int v2), (3, .int v3), (4, .int v4)]) rfl ?_
      exact s_X3_sort_82 hst h0 hd h_a0 k10 hk10 v1 v2 v3 v4 D
    · refine r_iload_n (pc := 41) 3 d_X3_sort_41 rfl rfl ?_
      refine r_aload_n (pc := 42) 0 d_X3_sort_42 rfl rfl ?_
      refine r_getR (pc := 43) g_X3_9 (LK_3 h0 h_a0) rfl (LR_3_0 h0 h_a0) d_X3_sort_43 ?_
      refine r_iload (pc := 46) 4 d_X3_sort_46 rfl ?_
      refine r_iload_n (pc := 48) 1 d_X3_sort_48 rfl rfl ?_
      refine r_isub (pc := 49) d_X3_sort_49 ?_
      refine r_ck (f := (oV Sh)) rfl (fun hc11 => ?_)
      refine q_iald (pc := 50) (j := (v4 - v1).toNatClampNeg) (LA_3_0 h0 h_a0) hc11 rfl d_X3_sort_50 ?_
      refine q_cP (f := (oV Sh)) (av := [.int v3, .int (gI D (a0 + 1) (v4 - v1).toNatClampNeg)]) (st := []) (z_runS ck_X3_isBefore rfl ml_X3_40 cs_X3_isBefore rfl (Nat.le_of_ble_eq_true rfl) d_X3_sort_51) (s_X3_isBefore hst h0 (by omega)) kp_V (fun x12 _ => ?_)
      refine r_if_eq (f := (oV Sh)) (pc := 54) 82 d_X3_sort_54 (by decide) (fun c13 => ?_) (fun c13 => ?_)
      · refine r_pick [0, 1, 2, 3, 4] (ls' := [(0, .ref a0), (1, .int v1), (2, .int v2), (3, .int v3), (4, .int v4)]) rfl ?_
        exact s_X3_sort_82 hst h0 hd h_a0 k10 hk10 v1 v2 v3 v4 D
      · refine r_aload_n (pc := 57) 0 d_X3_sort_57 rfl rfl ?_
        refine r_getR (pc := 58) g_X3_9 (LK_3 h0 h_a0) rfl (LR_3_0 h0 h_a0) d_X3_sort_58 ?_
        refine r_iload (pc := 61) 4 d_X3_sort_61 rfl ?_
        refine r_aload_n (pc := 63) 0 d_X3_sort_63 rfl rfl ?_
        refine r_getR (pc := 64) g_X3_9 (LK_3 h0 h_a0) rfl (LR_3_0 h0 h_a0) d_X3_sort_64 ?_
        refine r_iload (pc := 67) 4 d_X3_sort_67 rfl ?_
        refine r_iload_n (pc := 69) 1 d_X3_sort_69 rfl rfl ?_
        refine r_isub (pc := 70) d_X3_sort_70 ?_
        refine r_ck (f := (oV Sh)) rfl (fun hc14 => ?_)
        refine q_iald (pc := 71) (j := (v4 - v1).toNatClampNeg) (LA_3_0 h0 h_a0) hc14 rfl d_X3_sort_71 ?_
        refine r_ck (f := (oV Sh)) rfl (fun hc15 => ?_)
        refine q_iast (pc := 72) (j := v4.toNatClampNeg) (LA_3_0 h0 h_a0) hc15 rfl  d_X3_sort_72 ?_
        refine r_letD (f := (oV Sh)) (fun D16 => ?_)
        refine r_iload (pc := 73) 4 d_X3_sort_73 rfl ?_
        refine r_iload_n (pc := 75) 1 d_X3_sort_75 rfl rfl ?_
        refine r_isub (pc := 76) d_X3_sort_76 ?_
        refine r_leti (f := (oV Sh)) (fun x17 => ?_)
        refine r_istore (pc := 77) (ls' := [(4, .int x17), (0, .ref a0), (1, .int v1), (2, .int v2), (3, .int v3)]) d_X3_sort_77 (Nat.le_of_ble_eq_true rfl) rfl ?_
        refine r_goto (pc := 79) 35 d_X3_sort_79 (by decide) ?_
        refine r_pick [1, 2, 3, 4, 0] (ls' := [(0, .ref a0), (1, .int v1), (2, .int v2), (3, .int v3), (4, .int x17)]) rfl ?_
        exact hk35 v1 v2 v3 x17 D16 
theorem s_X3_sort_10 {X : zX} {Sh : zSh} {d : Nat} (hst : (zl X).stackTraces = false) (h0 : zSh0 Sh) (hd : 2 ≤ d) {a0 : Nat} (h_a0 : a0 ∈ zI_3) (k4 : Int32 → zD → Option zD) (hk4 : ∀ (v1 : Int32) (D : zD) , Rn X m_X3_sort (d + 1) 4 [(0, .ref a0), (1, .int v1)] [] (Sh, D) ((oV Sh) (k4 v1 D))) : ∀ (n : Nat) (v1 : Int32) (v2 : Int32) (D : zD) , Rn X m_X3_sort (d + 1) 10 [(0, .ref a0), (1, .int v1), (2, .int v2)] [] (Sh, D) ((oV Sh) (fn_X3_sort_10 a0 k4 n v1 v2 D)) := by
  intro n
  induction n with
  | zero => intro v1 v2 D; exact Rn_none rfl
  | succ n hk10 =>
    intro v1 v2 D
    rw [fn_X3_sort_10]
    refine r_iload_n (pc := 10) 2 d_X3_sort_10 rfl rfl ?_
    refine r_aload_n (pc := 11) 0 d_X3_sort_11 rfl rfl ?_
    refine q_gI (pc := 12) g_X3_15 (LK_3 h0 h_a0) rfl d_X3_sort_12 ?_
    refine r_icmp_ge (f := (oV Sh)) (pc := 15) 96 d_X3_sort_15 (by decide) (fun c2 => ?_) (fun c2 => ?_)
    · refine r_iload_n (pc := 96) 1 d_X3_sort_96 rfl rfl ?_
      refine r_iconst (pc := 97) (3 : Int32) d_X3_sort_97 rfl ?_
      refine r_idiv (f := (oV Sh)) (pc := 98) d_X3_sort_98 rfl ?_
      refine r_leti (f := (oV Sh)) (fun x3 => ?_)
      refine r_istore_n (pc := 99) (ls' := [(1, .int x3), (0, .ref a0), (2, .int v2)]) d_X3_sort_99 rfl (Nat.le_of_ble_eq_true rfl) rfl ?_
      refine r_goto (pc := 100) 4 d_X3_sort_100 (by decide) ?_
      refine r_pick [1, 0] (ls' := [(0, .ref a0), (1, .int x3)]) rfl ?_
      exact hk4 x3 D 
    · refine r_iload_n (pc := 18) 2 d_X3_sort_18 rfl rfl ?_
      refine r_sipush (pc := 19) (500 : Int32) d_X3_sort_19 rfl ?_
      refine r_icmp_ge (f := (oV Sh)) (pc := 22) 96 d_X3_sort_22 (by decide) (fun c4 => ?_) (fun c4 => ?_)
      · refine r_iload_n (pc := 96) 1 d_X3_sort_96 rfl rfl ?_
        refine r_iconst (pc := 97) (3 : Int32) d_X3_sort_97 rfl ?_
        refine r_idiv (f := (oV Sh)) (pc := 98) d_X3_sort_98 rfl ?_
        refine r_leti (f := (oV Sh)) (fun x5 => ?_)
        refine r_istore_n (pc := 99) (ls' := [(1, .int x5), (0, .ref a0), (2, .int v2)]) d_X3_sort_99 rfl (Nat.le_of_ble_eq_true rfl) rfl ?_
        refine r_goto (pc := 100) 4 d_X3_sort_100 (by decide) ?_
        refine r_pick [1, 0] (ls' := [(0, .ref a0), (1, .int x5)]) rfl ?_
        exact hk4 x5 D 
      · refine r_aload_n (pc := 25) 0 d_X3_sort_25 rfl rfl ?_
        refine r_getR (pc := 26) g_X3_9 (LK_3 h0 h_a0) rfl (LR_3_0 h0 h_a0) d_X3_sort_26 ?_
        refine r_iload_n (pc := 29) 2 d_X3_sort_29 rfl rfl ?_
        refine r_ck (f := (oV Sh)) rfl (fun hc6 => ?_)
        refine q_iald (pc := 30) (j := v2.toNatClampNeg) (LA_3_0 h0 h_a0) hc6 rfl d_X3_sort_30 ?_
        refine r_leti (f := (oV Sh)) (fun x7 => ?_)
        refine r_istore_n (pc := 31) (ls' := [(3, .int x7), (0, .ref a0), (1, .int v1), (2, .int v2)]) d_X3_sort_31 rfl (Nat.le_of_ble_eq_true rfl) rfl ?_
        refine r_iload_n (pc := 32) 3 d_X3_sort_32 rfl rfl ?_
        refine r_istore (pc := 33) (ls' := [(4, .int v2), (3, .int x7), (0, .ref a0), (1, .int v1), (2, .int v2)]) d_X3_sort_33 (Nat.le_of_ble_eq_true rfl) rfl ?_
        refine r_pick [2, 3, 4, 1, 0] (ls' := [(0, .ref a0), (1, .int v1), (2, .int v2), (3, .int x7), (4, .int v2)]) rfl ?_
        exact s_X3_sort_35 hst h0 hd h_a0 (fn_X3_sort_10 a0 k4 n) hk10 zFU  v1 v2 x7 v2 D
theorem s_X3_sort_4 {X : zX} {Sh : zSh} {d : Nat} (hst : (zl X).stackTraces = false) (h0 : zSh0 Sh) (hd : 2 ≤ d) {a0 : Nat} (h_a0 : a0 ∈ zI_3) : ∀ (n : Nat) (v1 : Int32) (D : zD) , Rn X m_X3_sort (d + 1) 4 [(0, .ref a0), (1, .int v1)] [] (Sh, D) ((oV Sh) (fn_X3_sort_4 a0 n v1 D)) := by
  intro n
  induction n with
  | zero => intro v1 D; exact Rn_none rfl
  | succ n hk4 =>
    intro v1 D
    rw [fn_X3_sort_4]
    refine r_iload_n (pc := 4) 1 d_X3_sort_4 rfl rfl ?_
    refine r_if_le (f := (oV Sh)) (pc := 5) 103 d_X3_sort_5 (by decide) (fun c1 => ?_) (fun c1 => ?_)
    · exact r_vret (pc := 103) rfl d_X3_sort_103
    · refine r_iload_n (pc := 8) 1 d_X3_sort_8 rfl rfl ?_
      refine r_istore_n (pc := 9) (ls' := [(2, .int v1), (0, .ref a0), (1, .int v1)]) d_X3_sort_9 rfl (Nat.le_of_ble_eq_true rfl) rfl ?_
      refine r_pick [1, 2, 0] (ls' := [(0, .ref a0), (1, .int v1), (2, .int v1)]) rfl ?_
      exact s_X3_sort_10 hst h0 hd h_a0 (fn_X3_sort_4 a0 n) hk4 zFU  v1 v1 D
theorem s_X3_sort {X : zX} {Sh : zSh} {d : Nat} (hst : (zl X).stackTraces = false) (h0 : zSh0 Sh) (hd : 3 ≤ d) {a0 : Nat} (h_a0 : a0 ∈ zI_3) {D : zD} : Sd X m_X3_sort d [.ref a0] (Sh, D) ((oV Sh) (fn_X3_sort a0 D)) := by
  obtain ⟨d, rfl⟩ : ∃ e, d = e + 1 := ⟨d - 1, by omega⟩
  replace hd : 2 ≤ d := by omega
  refine z_body ck_X3_sort rfl (Nat.le_of_ble_eq_true rfl) rfl hst ?_
  rw [fn_X3_sort]
  show Rn X m_X3_sort (d + 1) 0 [(0, .ref a0)] [] (Sh, D) _
  refine r_sipush (pc := 0) (364 : Int32) d_X3_sort_0 rfl ?_
  refine r_istore_n (pc := 3) (ls' := [(1, .int (364 : Int32)), (0, .ref a0)]) d_X3_sort_3 rfl (Nat.le_of_ble_eq_true rfl) rfl ?_
  refine r_pick [1, 0] (ls' := [(0, .ref a0), (1, .int (364 : Int32))]) rfl ?_
  exact s_X3_sort_4 hst h0 hd h_a0 zFU  (364 : Int32) D
/-! CoveredSigns$Covers.firstMixing -/
theorem d_X3_firstMixing_0 : decode (yB m_X3_firstMixing) 0 = .ok (.iconst 0, 1) := by decide +kernel
theorem d_X3_firstMixing_1 : decode (yB m_X3_firstMixing) 1 = .ok (.istore_n 3, 1) := by decide +kernel
theorem d_X3_firstMixing_2 : decode (yB m_X3_firstMixing) 2 = .ok (.iload_n 3, 1) := by decide +kernel
theorem d_X3_firstMixing_3 : decode (yB m_X3_firstMixing) 3 = .ok (.aload_n 0, 1) := by decide +kernel
theorem d_X3_firstMixing_4 : decode (yB m_X3_firstMixing) 4 = .ok (.getfield 15, 3) := by decide +kernel
theorem d_X3_firstMixing_7 : decode (yB m_X3_firstMixing) 7 = .ok (.if_icmp .ge 35, 3) := by decide +kernel
theorem d_X3_firstMixing_10 : decode (yB m_X3_firstMixing) 10 = .ok (.iload_n 3, 1) := by decide +kernel
theorem d_X3_firstMixing_11 : decode (yB m_X3_firstMixing) 11 = .ok (.sipush 500, 3) := by decide +kernel
theorem d_X3_firstMixing_14 : decode (yB m_X3_firstMixing) 14 = .ok (.if_icmp .ge 28, 3) := by decide +kernel
theorem d_X3_firstMixing_17 : decode (yB m_X3_firstMixing) 17 = .ok (.iload_n 1, 1) := by decide +kernel
theorem d_X3_firstMixing_18 : decode (yB m_X3_firstMixing) 18 = .ok (.aload_n 0, 1) := by decide +kernel
theorem d_X3_firstMixing_19 : decode (yB m_X3_firstMixing) 19 = .ok (.getfield 9, 3) := by decide +kernel
theorem d_X3_firstMixing_22 : decode (yB m_X3_firstMixing) 22 = .ok (.iload_n 3, 1) := by decide +kernel
theorem d_X3_firstMixing_23 : decode (yB m_X3_firstMixing) 23 = .ok (.iaload, 1) := by decide +kernel
theorem d_X3_firstMixing_24 : decode (yB m_X3_firstMixing) 24 = .ok (.iconst (-1), 1) := by decide +kernel
theorem d_X3_firstMixing_25 : decode (yB m_X3_firstMixing) 25 = .ok (.ixor, 1) := by decide +kernel
theorem d_X3_firstMixing_26 : decode (yB m_X3_firstMixing) 26 = .ok (.iand, 1) := by decide +kernel
theorem d_X3_firstMixing_27 : decode (yB m_X3_firstMixing) 27 = .ok (.invokestatic 34, 3) := by decide +kernel
theorem d_X3_firstMixing_30 : decode (yB m_X3_firstMixing) 30 = .ok (.iload_n 2, 1) := by decide +kernel
theorem d_X3_firstMixing_31 : decode (yB m_X3_firstMixing) 31 = .ok (.if_icmp .gt 5, 3) := by decide +kernel
theorem d_X3_firstMixing_34 : decode (yB m_X3_firstMixing) 34 = .ok (.iload_n 3, 1) := by decide +kernel
theorem d_X3_firstMixing_35 : decode (yB m_X3_firstMixing) 35 = .ok (.ireturn, 1) := by decide +kernel
theorem d_X3_firstMixing_36 : decode (yB m_X3_firstMixing) 36 = .ok (.iinc 3 1, 3) := by decide +kernel
theorem d_X3_firstMixing_39 : decode (yB m_X3_firstMixing) 39 = .ok (.goto (-37), 3) := by decide +kernel
theorem d_X3_firstMixing_42 : decode (yB m_X3_firstMixing) 42 = .ok (.iconst (-1), 1) := by decide +kernel
theorem d_X3_firstMixing_43 : decode (yB m_X3_firstMixing) 43 = .ok (.ireturn, 1) := by decide +kernel
def fn_X3_firstMixing_2 (a0 : Nat) (v1 : Int32) (v2 : Int32) (D : zD) : Nat → Int32 → Option Int32
  | 0, _ => none
  | n + 1, v3 => (if (gI D a0 1) ≤ v3 then ((some (-1 : Int32))) else ((if (500 : Int32) ≤ v3 then ((some (-1 : Int32))) else (zck v3 500 <| (fn_JI_bitCount (v1 &&& ((gI D (a0 + 1) v3.toNatClampNeg) ^^^ (-1 : Int32)))).bind fun x4 => (if v2 < x4 then (((fn_X3_firstMixing_2 a0 v1 v2 D n) (v3 + (1 : Int32)))) else ((some v3)))))))
def fn_X3_firstMixing (a0 : Nat) (v1 : Int32) (v2 : Int32) (D : zD) : Option Int32 := (fn_X3_firstMixing_2 a0 v1 v2 D zFU (0 : Int32))
theorem s_X3_firstMixing_2 {X : zX} {Sh : zSh} {d : Nat} (hst : (zl X).stackTraces = false) (h0 : zSh0 Sh) (hd : 1 ≤ d) {a0 : Nat} {v1 : Int32} {v2 : Int32} (h_a0 : a0 ∈ zI_3) (D : zD) : ∀ (n : Nat) (v3 : Int32) , Rn X m_X3_firstMixing (d + 1) 2 [(0, .ref a0), (1, .int v1), (2, .int v2), (3, .int v3)] [] (Sh, D) ((oP Sh D) (fn_X3_firstMixing_2 a0 v1 v2 D n v3)) := by
  intro n
  induction n with
  | zero => intro v3; exact Rn_none rfl
  | succ n hk2 =>
    intro v3
    rw [fn_X3_firstMixing_2]
    refine r_iload_n (pc := 2) 3 d_X3_firstMixing_2 rfl rfl ?_
    refine r_aload_n (pc := 3) 0 d_X3_firstMixing_3 rfl rfl ?_
    refine q_gI (pc := 4) g_X3_15 (LK_3 h0 h_a0) rfl d_X3_firstMixing_4 ?_
    refine r_icmp_ge (f := (oP Sh D)) (pc := 7) 42 d_X3_firstMixing_7 (by decide) (fun c1 => ?_) (fun c1 => ?_)
    · refine r_iconst (pc := 42) (-1 : Int32) d_X3_firstMixing_42 rfl ?_
      exact r_iret (pc := 43) rfl d_X3_firstMixing_43
    · refine r_iload_n (pc := 10) 3 d_X3_firstMixing_10 rfl rfl ?_
      refine r_sipush (pc := 11) (500 : Int32) d_X3_firstMixing_11 rfl ?_
      refine r_icmp_ge (f := (oP Sh D)) (pc := 14) 42 d_X3_firstMixing_14 (by decide) (fun c2 => ?_) (fun c2 => ?_)
      · refine r_iconst (pc := 42) (-1 : Int32) d_X3_firstMixing_42 rfl ?_
        exact r_iret (pc := 43) rfl d_X3_firstMixing_43
      · refine r_iload_n (pc := 17) 1 d_X3_firstMixing_17 rfl rfl ?_
        refine r_aload_n (pc := 18) 0 d_X3_firstMixing_18 rfl rfl ?_
        refine r_getR (pc := 19) g_X3_9 (LK_3 h0 h_a0) rfl (LR_3_0 h0 h_a0) d_X3_firstMixing_19 ?_
        refine r_iload_n (pc := 22) 3 d_X3_firstMixing_22 rfl rfl ?_
        refine r_ck (f := (oP Sh D)) rfl (fun hc3 => ?_)
        refine q_iald (pc := 23) (j := v3.toNatClampNeg) (LA_3_0 h0 h_a0) hc3 rfl d_X3_firstMixing_23 ?_
        refine r_iconst (pc := 24) (-1 : Int32) d_X3_firstMixing_24 rfl ?_
        refine r_ixor (pc := 25) d_X3_firstMixing_25 ?_
        refine r_iand (pc := 26) d_X3_firstMixing_26 ?_
        refine q_cP (f := (oP Sh D)) (av := [.int (v1 &&& ((gI D (a0 + 1) v3.toNatClampNeg) ^^^ (-1 : Int32)))]) (st := []) (z_runS ck_JI_bitCount rfl ml_X3_34 cs_JI_bitCount rfl (Nat.le_of_ble_eq_true rfl) d_X3_firstMixing_27) (s_JI_bitCount hst h0 (by omega)) kp_P (fun x4 _ => ?_)
        refine r_iload_n (pc := 30) 2 d_X3_firstMixing_30 rfl rfl ?_
        refine r_icmp_gt (f := (oP Sh D)) (pc := 31) 36 d_X3_firstMixing_31 (by decide) (fun c5 => ?_) (fun c5 => ?_)
        · refine r_iinc (pc := 36) ((v3 + (1 : Int32))) 3 (ls' := [(3, .int (v3 + (1 : Int32))), (0, .ref a0), (1, .int v1), (2, .int v2)]) d_X3_firstMixing_36 rfl rfl (Nat.le_of_ble_eq_true rfl) rfl ?_
          refine r_goto (pc := 39) 2 d_X3_firstMixing_39 (by decide) ?_
          refine r_pick [1, 2, 3, 0] (ls' := [(0, .ref a0), (1, .int v1), (2, .int v2), (3, .int (v3 + (1 : Int32)))]) rfl ?_
          exact hk2 (v3 + (1 : Int32)) 
        · refine r_iload_n (pc := 34) 3 d_X3_firstMixing_34 rfl rfl ?_
          exact r_iret (pc := 35) rfl d_X3_firstMixing_35
theorem s_X3_firstMixing {X : zX} {Sh : zSh} {d : Nat} (hst : (zl X).stackTraces = false) (h0 : zSh0 Sh) (hd : 2 ≤ d) {a0 : Nat} {v1 : Int32} {v2 : Int32} (h_a0 : a0 ∈ zI_3) {D : zD} : Sd X m_X3_firstMixing d [.ref a0, .int v1, .int v2] (Sh, D) ((oP Sh D) (fn_X3_firstMixing a0 v1 v2 D)) := by
  obtain ⟨d, rfl⟩ : ∃ e, d = e + 1 := ⟨d - 1, by omega⟩
  replace hd : 1 ≤ d := by omega
  refine z_body ck_X3_firstMixing rfl (Nat.le_of_ble_eq_true rfl) rfl hst ?_
  rw [fn_X3_firstMixing]
  show Rn X m_X3_firstMixing (d + 1) 0 [(0, .ref a0), (1, .int v1), (2, .int v2)] [] (Sh, D) _
  refine r_iconst (pc := 0) (0 : Int32) d_X3_firstMixing_0 rfl ?_
  refine r_istore_n (pc := 1) (ls' := [(3, .int (0 : Int32)), (0, .ref a0), (1, .int v1), (2, .int v2)]) d_X3_firstMixing_1 rfl (Nat.le_of_ble_eq_true rfl) rfl ?_
  refine r_pick [1, 2, 3, 0] (ls' := [(0, .ref a0), (1, .int v1), (2, .int v2), (3, .int (0 : Int32))]) rfl ?_
  exact s_X3_firstMixing_2 hst h0 hd h_a0 D zFU  (0 : Int32)
/-! CoveredSigns$Covers.mixingCells -/
theorem d_X3_mixingCells_0 : decode (yB m_X3_mixingCells) 0 = .ok (.iconst 0, 1) := by decide +kernel
theorem d_X3_mixingCells_1 : decode (yB m_X3_mixingCells) 1 = .ok (.istore 4, 2) := by decide +kernel
theorem d_X3_mixingCells_3 : decode (yB m_X3_mixingCells) 3 = .ok (.iconst 0, 1) := by decide +kernel
theorem d_X3_mixingCells_4 : decode (yB m_X3_mixingCells) 4 = .ok (.istore 5, 2) := by decide +kernel
theorem d_X3_mixingCells_6 : decode (yB m_X3_mixingCells) 6 = .ok (.iload 5, 2) := by decide +kernel
theorem d_X3_mixingCells_8 : decode (yB m_X3_mixingCells) 8 = .ok (.aload_n 0, 1) := by decide +kernel
theorem d_X3_mixingCells_9 : decode (yB m_X3_mixingCells) 9 = .ok (.getfield 15, 3) := by decide +kernel
theorem d_X3_mixingCells_12 : decode (yB m_X3_mixingCells) 12 = .ok (.if_icmp .ge 98, 3) := by decide +kernel
theorem d_X3_mixingCells_15 : decode (yB m_X3_mixingCells) 15 = .ok (.iload 5, 2) := by decide +kernel
theorem d_X3_mixingCells_17 : decode (yB m_X3_mixingCells) 17 = .ok (.sipush 500, 3) := by decide +kernel
theorem d_X3_mixingCells_20 : decode (yB m_X3_mixingCells) 20 = .ok (.if_icmp .ge 90, 3) := by decide +kernel
theorem d_X3_mixingCells_23 : decode (yB m_X3_mixingCells) 23 = .ok (.iload 4, 2) := by decide +kernel
theorem d_X3_mixingCells_25 : decode (yB m_X3_mixingCells) 25 = .ok (.iload_n 3, 1) := by decide +kernel
theorem d_X3_mixingCells_26 : decode (yB m_X3_mixingCells) 26 = .ok (.if_icmp .eq 84, 3) := by decide +kernel
theorem d_X3_mixingCells_29 : decode (yB m_X3_mixingCells) 29 = .ok (.iload_n 1, 1) := by decide +kernel
theorem d_X3_mixingCells_30 : decode (yB m_X3_mixingCells) 30 = .ok (.aload_n 0, 1) := by decide +kernel
theorem d_X3_mixingCells_31 : decode (yB m_X3_mixingCells) 31 = .ok (.getfield 9, 3) := by decide +kernel
theorem d_X3_mixingCells_34 : decode (yB m_X3_mixingCells) 34 = .ok (.iload 5, 2) := by decide +kernel
theorem d_X3_mixingCells_36 : decode (yB m_X3_mixingCells) 36 = .ok (.iaload, 1) := by decide +kernel
theorem d_X3_mixingCells_37 : decode (yB m_X3_mixingCells) 37 = .ok (.iconst (-1), 1) := by decide +kernel
theorem d_X3_mixingCells_38 : decode (yB m_X3_mixingCells) 38 = .ok (.ixor, 1) := by decide +kernel
theorem d_X3_mixingCells_39 : decode (yB m_X3_mixingCells) 39 = .ok (.iand, 1) := by decide +kernel
theorem d_X3_mixingCells_40 : decode (yB m_X3_mixingCells) 40 = .ok (.invokestatic 34, 3) := by decide +kernel
theorem d_X3_mixingCells_43 : decode (yB m_X3_mixingCells) 43 = .ok (.istore 6, 2) := by decide +kernel
theorem d_X3_mixingCells_45 : decode (yB m_X3_mixingCells) 45 = .ok (.iload 6, 2) := by decide +kernel
theorem d_X3_mixingCells_47 : decode (yB m_X3_mixingCells) 47 = .ok (.iload_n 2, 1) := by decide +kernel
theorem d_X3_mixingCells_48 : decode (yB m_X3_mixingCells) 48 = .ok (.if_icmp .ge 9, 3) := by decide +kernel
theorem d_X3_mixingCells_51 : decode (yB m_X3_mixingCells) 51 = .ok (.iload_n 3, 1) := by decide +kernel
theorem d_X3_mixingCells_52 : decode (yB m_X3_mixingCells) 52 = .ok (.istore 4, 2) := by decide +kernel
theorem d_X3_mixingCells_54 : decode (yB m_X3_mixingCells) 54 = .ok (.goto 50, 3) := by decide +kernel
theorem d_X3_mixingCells_57 : decode (yB m_X3_mixingCells) 57 = .ok (.iload 6, 2) := by decide +kernel
theorem d_X3_mixingCells_59 : decode (yB m_X3_mixingCells) 59 = .ok (.iload_n 2, 1) := by decide +kernel
theorem d_X3_mixingCells_60 : decode (yB m_X3_mixingCells) 60 = .ok (.if_icmp .ne 20, 3) := by decide +kernel
theorem d_X3_mixingCells_63 : decode (yB m_X3_mixingCells) 63 = .ok (.iload 4, 2) := by decide +kernel
theorem d_X3_mixingCells_65 : decode (yB m_X3_mixingCells) 65 = .ok (.aload_n 0, 1) := by decide +kernel
theorem d_X3_mixingCells_66 : decode (yB m_X3_mixingCells) 66 = .ok (.getfield 9, 3) := by decide +kernel
theorem d_X3_mixingCells_69 : decode (yB m_X3_mixingCells) 69 = .ok (.iload 5, 2) := by decide +kernel
theorem d_X3_mixingCells_71 : decode (yB m_X3_mixingCells) 71 = .ok (.iaload, 1) := by decide +kernel
theorem d_X3_mixingCells_72 : decode (yB m_X3_mixingCells) 72 = .ok (.iload_n 1, 1) := by decide +kernel
theorem d_X3_mixingCells_73 : decode (yB m_X3_mixingCells) 73 = .ok (.ior, 1) := by decide +kernel
theorem d_X3_mixingCells_74 : decode (yB m_X3_mixingCells) 74 = .ok (.ior, 1) := by decide +kernel
theorem d_X3_mixingCells_75 : decode (yB m_X3_mixingCells) 75 = .ok (.istore 4, 2) := by decide +kernel
theorem d_X3_mixingCells_77 : decode (yB m_X3_mixingCells) 77 = .ok (.goto 27, 3) := by decide +kernel
theorem d_X3_mixingCells_80 : decode (yB m_X3_mixingCells) 80 = .ok (.iload 6, 2) := by decide +kernel
theorem d_X3_mixingCells_82 : decode (yB m_X3_mixingCells) 82 = .ok (.iload_n 2, 1) := by decide +kernel
theorem d_X3_mixingCells_83 : decode (yB m_X3_mixingCells) 83 = .ok (.iconst 1, 1) := by decide +kernel
theorem d_X3_mixingCells_84 : decode (yB m_X3_mixingCells) 84 = .ok (.iadd, 1) := by decide +kernel
theorem d_X3_mixingCells_85 : decode (yB m_X3_mixingCells) 85 = .ok (.if_icmp .ne 19, 3) := by decide +kernel
theorem d_X3_mixingCells_88 : decode (yB m_X3_mixingCells) 88 = .ok (.iload 4, 2) := by decide +kernel
theorem d_X3_mixingCells_90 : decode (yB m_X3_mixingCells) 90 = .ok (.iload_n 1, 1) := by decide +kernel
theorem d_X3_mixingCells_91 : decode (yB m_X3_mixingCells) 91 = .ok (.aload_n 0, 1) := by decide +kernel
theorem d_X3_mixingCells_92 : decode (yB m_X3_mixingCells) 92 = .ok (.getfield 9, 3) := by decide +kernel
theorem d_X3_mixingCells_95 : decode (yB m_X3_mixingCells) 95 = .ok (.iload 5, 2) := by decide +kernel
theorem d_X3_mixingCells_97 : decode (yB m_X3_mixingCells) 97 = .ok (.iaload, 1) := by decide +kernel
theorem d_X3_mixingCells_98 : decode (yB m_X3_mixingCells) 98 = .ok (.iconst (-1), 1) := by decide +kernel
theorem d_X3_mixingCells_99 : decode (yB m_X3_mixingCells) 99 = .ok (.ixor, 1) := by decide +kernel
theorem d_X3_mixingCells_100 : decode (yB m_X3_mixingCells) 100 = .ok (.iand, 1) := by decide +kernel
theorem d_X3_mixingCells_101 : decode (yB m_X3_mixingCells) 101 = .ok (.ior, 1) := by decide +kernel
theorem d_X3_mixingCells_102 : decode (yB m_X3_mixingCells) 102 = .ok (.istore 4, 2) := by decide +kernel
theorem d_X3_mixingCells_104 : decode (yB m_X3_mixingCells) 104 = .ok (.iinc 5 1, 3) := by decide +kernel
theorem d_X3_mixingCells_107 : decode (yB m_X3_mixingCells) 107 = .ok (.goto (-101), 3) := by decide +kernel
theorem d_X3_mixingCells_110 : decode (yB m_X3_mixingCells) 110 = .ok (.iload 4, 2) := by decide +kernel
theorem d_X3_mixingCells_112 : decode (yB m_X3_mixingCells) 112 = .ok (.ireturn, 1) := by decide +kernel
def fn_X3_mixingCells_6 (a0 : Nat) (v1 : Int32) (v2 : Int32) (v3 : Int32) (D : zD) : Nat → Int32 → Int32 → Option Int32
  | 0, _, _ => none
  | n + 1, v4, v5 => (if (gI D a0 1) ≤ v5 then ((some v4)) else ((if (500 : Int32) ≤ v5 then ((some v4)) else ((if v4 = v3 then ((some v4)) else (zck v5 500 <| (fn_JI_bitCount (v1 &&& ((gI D (a0 + 1) v5.toNatClampNeg) ^^^ (-1 : Int32)))).bind fun x5 => (if v2 ≤ x5 then ((if x5 = v2 then (zck v5 500 <| zlet (v4 ||| ((gI D (a0 + 1) v5.toNatClampNeg) ||| v1)) fun x12 => ((fn_X3_mixingCells_6 a0 v1 v2 v3 D n) x12 (v5 + (1 : Int32)))) else ((if x5 = (v2 + (1 : Int32)) then (zck v5 500 <| zlet (v4 ||| (v1 &&& ((gI D (a0 + 1) v5.toNatClampNeg) ^^^ (-1 : Int32)))) fun x10 => ((fn_X3_mixingCells_6 a0 v1 v2 v3 D n) x10 (v5 + (1 : Int32)))) else (((fn_X3_mixingCells_6 a0 v1 v2 v3 D n) v4 (v5 + (1 : Int32)))))))) else (((fn_X3_mixingCells_6 a0 v1 v2 v3 D n) v3 (v5 + (1 : Int32)))))))))))
def fn_X3_mixingCells (a0 : Nat) (v1 : Int32) (v2 : Int32) (v3 : Int32) (D : zD) : Option Int32 := (fn_X3_mixingCells_6 a0 v1 v2 v3 D zFU (0 : Int32) (0 : Int32))
theorem s_X3_mixingCells_6 {X : zX} {Sh : zSh} {d : Nat} (hst : (zl X).stackTraces = false) (h0 : zSh0 Sh) (hd : 1 ≤ d) {a0 : Nat} {v1 : Int32} {v2 : Int32} {v3 : Int32} (h_a0 : a0 ∈ zI_3) (D : zD) : ∀ (n : Nat) (v4 : Int32) (v5 : Int32) , Rn X m_X3_mixingCells (d + 1) 6 [(0, .ref a0), (1, .int v1), (2, .int v2), (3, .int v3), (4, .int v4), (5, .int v5)] [] (Sh, D) ((oP Sh D) (fn_X3_mixingCells_6 a0 v1 v2 v3 D n v4 v5)) := by
  intro n
  induction n with
  | zero => intro v4 v5; exact Rn_none rfl
  | succ n hk6 =>
    intro v4 v5
    rw [fn_X3_mixingCells_6]
    refine r_iload (pc := 6) 5 d_X3_mixingCells_6 rfl ?_
    refine r_aload_n (pc := 8) 0 d_X3_mixingCells_8 rfl rfl ?_
    refine q_gI (pc := 9) g_X3_15 (LK_3 h0 h_a0) rfl d_X3_mixingCells_9 ?_
    refine r_icmp_ge (f := (oP Sh D)) (pc := 12) 110 d_X3_mixingCells_12 (by decide) (fun c1 => ?_) (fun c1 => ?_)
    · refine r_iload (pc := 110) 4 d_X3_mixingCells_110 rfl ?_
      exact r_iret (pc := 112) rfl d_X3_mixingCells_112
    · refine r_iload (pc := 15) 5 d_X3_mixingCells_15 rfl ?_
      refine r_sipush (pc := 17) (500 : Int32) d_X3_mixingCells_17 rfl ?_
      refine r_icmp_ge (f := (oP Sh D)) (pc := 20) 110 d_X3_mixingCells_20 (by decide) (fun c2 => ?_) (fun c2 => ?_)
      · refine r_iload (pc := 110) 4 d_X3_mixingCells_110 rfl ?_
        exact r_iret (pc := 112) rfl d_X3_mixingCells_112
      · refine r_iload (pc := 23) 4 d_X3_mixingCells_23 rfl ?_
        refine r_iload_n (pc := 25) 3 d_X3_mixingCells_25 rfl rfl ?_
        refine r_icmp_eq (f := (oP Sh D)) (pc := 26) 110 d_X3_mixingCells_26 (by decide) (fun c3 => ?_) (fun c3 => ?_)
        · refine r_iload (pc := 110) 4 d_X3_mixingCells_110 rfl ?_
          exact r_iret (pc := 112) rfl d_X3_mixingCells_112
        · refine r_iload_n (pc := 29) 1 d_X3_mixingCells_29 rfl rfl ?_
          refine r_aload_n (pc := 30) 0 d_X3_mixingCells_30 rfl rfl ?_
          refine r_getR (pc := 31) g_X3_9 (LK_3 h0 h_a0) rfl (LR_3_0 h0 h_a0) d_X3_mixingCells_31 ?_
          refine r_iload (pc := 34) 5 d_X3_mixingCells_34 rfl ?_
          refine r_ck (f := (oP Sh D)) rfl (fun hc4 => ?_)
          refine q_iald (pc := 36) (j := v5.toNatClampNeg) (LA_3_0 h0 h_a0) hc4 rfl d_X3_mixingCells_36 ?_
          refine r_iconst (pc := 37) (-1 : Int32) d_X3_mixingCells_37 rfl ?_
          refine r_ixor (pc := 38) d_X3_mixingCells_38 ?_
          refine r_iand (pc := 39) d_X3_mixingCells_39 ?_
          refine q_cP (f := (oP Sh D)) (av := [.int (v1 &&& ((gI D (a0 + 1) v5.toNatClampNeg) ^^^ (-1 : Int32)))]) (st := []) (z_runS ck_JI_bitCount rfl ml_X3_34 cs_JI_bitCount rfl (Nat.le_of_ble_eq_true rfl) d_X3_mixingCells_40) (s_JI_bitCount hst h0 (by omega)) kp_P (fun x5 _ => ?_)
          refine r_istore (pc := 43) (ls' := [(6, .int x5), (0, .ref a0), (1, .int v1), (2, .int v2), (3, .int v3), (4, .int v4), (5, .int v5)]) d_X3_mixingCells_43 (Nat.le_of_ble_eq_true rfl) rfl ?_
          refine r_iload (pc := 45) 0 d_X3_mixingCells_45 rfl ?_
          refine r_iload_n (pc := 47) 3 d_X3_mixingCells_47 rfl rfl ?_
          refine r_icmp_ge (f := (oP Sh D)) (pc := 48) 57 d_X3_mixingCells_48 (by decide) (fun c6 => ?_) (fun c6 => ?_)
          · refine r_iload (pc := 57) 0 d_X3_mixingCells_57 rfl ?_
            refine r_iload_n (pc := 59) 3 d_X3_mixingCells_59 rfl rfl ?_
            refine r_icmp_ne (f := (oP Sh D)) (pc := 60) 80 d_X3_mixingCells_60 (by decide) (fun c7 => ?_) (fun c7 => ?_)
            · refine r_iload (pc := 80) 0 d_X3_mixingCells_80 rfl ?_
              refine r_iload_n (pc := 82) 3 d_X3_mixingCells_82 rfl rfl ?_
              refine r_iconst (pc := 83) (1 : Int32) d_X3_mixingCells_83 rfl ?_
              refine r_iadd (pc := 84) d_X3_mixingCells_84 ?_
              refine r_icmp_ne (f := (oP Sh D)) (pc := 85) 104 d_X3_mixingCells_85 (by decide) (fun c8 => ?_) (fun c8 => ?_)
              · refine r_iinc (pc := 104) ((v5 + (1 : Int32))) 6 (ls' := [(5, .int (v5 + (1 : Int32))), (6, .int x5), (0, .ref a0), (1, .int v1), (2, .int v2), (3, .int v3), (4, .int v4)]) d_X3_mixingCells_104 rfl rfl (Nat.le_of_ble_eq_true rfl) rfl ?_
                refine r_goto (pc := 107) 6 d_X3_mixingCells_107 (by decide) ?_
                refine r_pick [2, 3, 4, 5, 6, 0] (ls' := [(0, .ref a0), (1, .int v1), (2, .int v2), (3, .int v3), (4, .int v4), (5, .int (v5 + (1 : Int32)))]) rfl ?_
                exact hk6 v4 (v5 + (1 : Int32)) 
              · refine r_iload (pc := 88) 5 d_X3_mixingCells_88 rfl ?_
                refine r_iload_n (pc := 90) 2 d_X3_mixingCells_90 rfl rfl ?_
                refine r_aload_n (pc := 91) 1 d_X3_mixingCells_91 rfl rfl ?_
                refine r_getR (pc := 92) g_X3_9 (LK_3 h0 h_a0) rfl (LR_3_0 h0 h_a0) d_X3_mixingCells_92 ?_
                refine r_iload (pc := 95) 6 d_X3_mixingCells_95 rfl ?_
                refine r_ck (f := (oP Sh D)) rfl (fun hc9 => ?_)
                refine q_iald (pc := 97) (j := v5.toNatClampNeg) (LA_3_0 h0 h_a0) hc9 rfl d_X3_mixingCells_97 ?_
                refine r_iconst (pc := 98) (-1 : Int32) d_X3_mixingCells_98 rfl ?_
                refine r_ixor (pc := 99) d_X3_mixingCells_99 ?_
                refine r_iand (pc := 100) d_X3_mixingCells_100 ?_
                refine r_ior (pc := 101) d_X3_mixingCells_101 ?_
                refine r_leti (f := (oP Sh D)) (fun x10 => ?_)
                refine r_istore (pc := 102) (ls' := [(4, .int x10), (6, .int x5), (0, .ref a0), (1, .int v1), (2, .int v2), (3, .int v3), (5, .int v5)]) d_X3_mixingCells_102 (Nat.le_of_ble_eq_true rfl) rfl ?_
                refine r_iinc (pc := 104) ((v5 + (1 : Int32))) 6 (ls' := [(5, .int (v5 + (1 : Int32))), (4, .int x10), (6, .int x5), (0, .ref a0), (1, .int v1), (2, .int v2), (3, .int v3)]) d_X3_mixingCells_104 rfl rfl (Nat.le_of_ble_eq_true rfl) rfl ?_
                refine r_goto (pc := 107) 6 d_X3_mixingCells_107 (by decide) ?_
                refine r_pick [3, 4, 5, 6, 1, 0] (ls' := [(0, .ref a0), (1, .int v1), (2, .int v2), (3, .int v3), (4, .int x10), (5, .int (v5 + (1 : Int32)))]) rfl ?_
                exact hk6 x10 (v5 + (1 : Int32)) 
            · refine r_iload (pc := 63) 5 d_X3_mixingCells_63 rfl ?_
              refine r_aload_n (pc := 65) 1 d_X3_mixingCells_65 rfl rfl ?_
              refine r_getR (pc := 66) g_X3_9 (LK_3 h0 h_a0) rfl (LR_3_0 h0 h_a0) d_X3_mixingCells_66 ?_
              refine r_iload (pc := 69) 6 d_X3_mixingCells_69 rfl ?_
              refine r_ck (f := (oP Sh D)) rfl (fun hc11 => ?_)
              refine q_iald (pc := 71) (j := v5.toNatClampNeg) (LA_3_0 h0 h_a0) hc11 rfl d_X3_mixingCells_71 ?_
              refine r_iload_n (pc := 72) 2 d_X3_mixingCells_72 rfl rfl ?_
              refine r_ior (pc := 73) d_X3_mixingCells_73 ?_
              refine r_ior (pc := 74) d_X3_mixingCells_74 ?_
              refine r_leti (f := (oP Sh D)) (fun x12 => ?_)
              refine r_istore (pc := 75) (ls' := [(4, .int x12), (6, .int x5), (0, .ref a0), (1, .int v1), (2, .int v2), (3, .int v3), (5, .int v5)]) d_X3_mixingCells_75 (Nat.le_of_ble_eq_true rfl) rfl ?_
              refine r_goto (pc := 77) 104 d_X3_mixingCells_77 (by decide) ?_
              refine r_iinc (pc := 104) ((v5 + (1 : Int32))) 6 (ls' := [(5, .int (v5 + (1 : Int32))), (4, .int x12), (6, .int x5), (0, .ref a0), (1, .int v1), (2, .int v2), (3, .int v3)]) d_X3_mixingCells_104 rfl rfl (Nat.le_of_ble_eq_true rfl) rfl ?_
              refine r_goto (pc := 107) 6 d_X3_mixingCells_107 (by decide) ?_
              refine r_pick [3, 4, 5, 6, 1, 0] (ls' := [(0, .ref a0), (1, .int v1), (2, .int v2), (3, .int v3), (4, .int x12), (5, .int (v5 + (1 : Int32)))]) rfl ?_
              exact hk6 x12 (v5 + (1 : Int32)) 
          · refine r_iload_n (pc := 51) 4 d_X3_mixingCells_51 rfl rfl ?_
            refine r_istore (pc := 52) (ls' := [(4, .int v3), (6, .int x5), (0, .ref a0), (1, .int v1), (2, .int v2), (3, .int v3), (5, .int v5)]) d_X3_mixingCells_52 (Nat.le_of_ble_eq_true rfl) rfl ?_
            refine r_goto (pc := 54) 104 d_X3_mixingCells_54 (by decide) ?_
            refine r_iinc (pc := 104) ((v5 + (1 : Int32))) 6 (ls' := [(5, .int (v5 + (1 : Int32))), (4, .int v3), (6, .int x5), (0, .ref a0), (1, .int v1), (2, .int v2), (3, .int v3)]) d_X3_mixingCells_104 rfl rfl (Nat.le_of_ble_eq_true rfl) rfl ?_
            refine r_goto (pc := 107) 6 d_X3_mixingCells_107 (by decide) ?_
            refine r_pick [3, 4, 5, 6, 1, 0] (ls' := [(0, .ref a0), (1, .int v1), (2, .int v2), (3, .int v3), (4, .int v3), (5, .int (v5 + (1 : Int32)))]) rfl ?_
            exact hk6 v3 (v5 + (1 : Int32)) 
theorem s_X3_mixingCells {X : zX} {Sh : zSh} {d : Nat} (hst : (zl X).stackTraces = false) (h0 : zSh0 Sh) (hd : 2 ≤ d) {a0 : Nat} {v1 : Int32} {v2 : Int32} {v3 : Int32} (h_a0 : a0 ∈ zI_3) {D : zD} : Sd X m_X3_mixingCells d [.ref a0, .int v1, .int v2, .int v3] (Sh, D) ((oP Sh D) (fn_X3_mixingCells a0 v1 v2 v3 D)) := by
  obtain ⟨d, rfl⟩ : ∃ e, d = e + 1 := ⟨d - 1, by omega⟩
  replace hd : 1 ≤ d := by omega
  refine z_body ck_X3_mixingCells rfl (Nat.le_of_ble_eq_true rfl) rfl hst ?_
  rw [fn_X3_mixingCells]
  show Rn X m_X3_mixingCells (d + 1) 0 [(0, .ref a0), (1, .int v1), (2, .int v2), (3, .int v3)] [] (Sh, D) _
  refine r_iconst (pc := 0) (0 : Int32) d_X3_mixingCells_0 rfl ?_
  refine r_istore (pc := 1) (ls' := [(4, .int (0 : Int32)), (0, .ref a0), (1, .int v1), (2, .int v2), (3, .int v3)]) d_X3_mixingCells_1 (Nat.le_of_ble_eq_true rfl) rfl ?_
  refine r_iconst (pc := 3) (0 : Int32) d_X3_mixingCells_3 rfl ?_
  refine r_istore (pc := 4) (ls' := [(5, .int (0 : Int32)), (4, .int (0 : Int32)), (0, .ref a0), (1, .int v1), (2, .int v2), (3, .int v3)]) d_X3_mixingCells_4 (Nat.le_of_ble_eq_true rfl) rfl ?_
  refine r_pick [2, 3, 4, 5, 1, 0] (ls' := [(0, .ref a0), (1, .int v1), (2, .int v2), (3, .int v3), (4, .int (0 : Int32)), (5, .int (0 : Int32))]) rfl ?_
  exact s_X3_mixingCells_6 hst h0 hd h_a0 D zFU  (0 : Int32) (0 : Int32)
/-! CoveredSigns$Covers.pairsMixedBy -/
theorem d_X3_pairsMixedBy_0 : decode (yB m_X3_pairsMixedBy) 0 = .ok (.aload_n 0, 1) := by decide +kernel
theorem d_X3_pairsMixedBy_1 : decode (yB m_X3_pairsMixedBy) 1 = .ok (.iload_n 1, 1) := by decide +kernel
theorem d_X3_pairsMixedBy_2 : decode (yB m_X3_pairsMixedBy) 2 = .ok (.invokevirtual 44, 3) := by decide +kernel
theorem d_X3_pairsMixedBy_5 : decode (yB m_X3_pairsMixedBy) 5 = .ok (.istore 4, 2) := by decide +kernel
theorem d_X3_pairsMixedBy_7 : decode (yB m_X3_pairsMixedBy) 7 = .ok (.iconst 0, 1) := by decide +kernel
theorem d_X3_pairsMixedBy_8 : decode (yB m_X3_pairsMixedBy) 8 = .ok (.istore 5, 2) := by decide +kernel
theorem d_X3_pairsMixedBy_10 : decode (yB m_X3_pairsMixedBy) 10 = .ok (.iconst 0, 1) := by decide +kernel
theorem d_X3_pairsMixedBy_11 : decode (yB m_X3_pairsMixedBy) 11 = .ok (.istore 6, 2) := by decide +kernel
theorem d_X3_pairsMixedBy_13 : decode (yB m_X3_pairsMixedBy) 13 = .ok (.iload 6, 2) := by decide +kernel
theorem d_X3_pairsMixedBy_15 : decode (yB m_X3_pairsMixedBy) 15 = .ok (.aload_n 2, 1) := by decide +kernel
theorem d_X3_pairsMixedBy_16 : decode (yB m_X3_pairsMixedBy) 16 = .ok (.getfield 47, 3) := by decide +kernel
theorem d_X3_pairsMixedBy_19 : decode (yB m_X3_pairsMixedBy) 19 = .ok (.if_icmp .ge 62, 3) := by decide +kernel
theorem d_X3_pairsMixedBy_22 : decode (yB m_X3_pairsMixedBy) 22 = .ok (.iload 6, 2) := by decide +kernel
theorem d_X3_pairsMixedBy_24 : decode (yB m_X3_pairsMixedBy) 24 = .ok (.iconst 1, 1) := by decide +kernel
theorem d_X3_pairsMixedBy_25 : decode (yB m_X3_pairsMixedBy) 25 = .ok (.iadd, 1) := by decide +kernel
theorem d_X3_pairsMixedBy_26 : decode (yB m_X3_pairsMixedBy) 26 = .ok (.istore 7, 2) := by decide +kernel
theorem d_X3_pairsMixedBy_28 : decode (yB m_X3_pairsMixedBy) 28 = .ok (.iload 7, 2) := by decide +kernel
theorem d_X3_pairsMixedBy_30 : decode (yB m_X3_pairsMixedBy) 30 = .ok (.aload_n 2, 1) := by decide +kernel
theorem d_X3_pairsMixedBy_31 : decode (yB m_X3_pairsMixedBy) 31 = .ok (.getfield 47, 3) := by decide +kernel
theorem d_X3_pairsMixedBy_34 : decode (yB m_X3_pairsMixedBy) 34 = .ok (.if_icmp .ge 41, 3) := by decide +kernel
theorem d_X3_pairsMixedBy_37 : decode (yB m_X3_pairsMixedBy) 37 = .ok (.aload_n 2, 1) := by decide +kernel
theorem d_X3_pairsMixedBy_38 : decode (yB m_X3_pairsMixedBy) 38 = .ok (.iload 6, 2) := by decide +kernel
theorem d_X3_pairsMixedBy_40 : decode (yB m_X3_pairsMixedBy) 40 = .ok (.invokevirtual 52, 3) := by decide +kernel
theorem d_X3_pairsMixedBy_43 : decode (yB m_X3_pairsMixedBy) 43 = .ok (.aload_n 2, 1) := by decide +kernel
theorem d_X3_pairsMixedBy_44 : decode (yB m_X3_pairsMixedBy) 44 = .ok (.iload 7, 2) := by decide +kernel
theorem d_X3_pairsMixedBy_46 : decode (yB m_X3_pairsMixedBy) 46 = .ok (.invokevirtual 52, 3) := by decide +kernel
theorem d_X3_pairsMixedBy_49 : decode (yB m_X3_pairsMixedBy) 49 = .ok (.ixor, 1) := by decide +kernel
theorem d_X3_pairsMixedBy_50 : decode (yB m_X3_pairsMixedBy) 50 = .ok (.istore 8, 2) := by decide +kernel
theorem d_X3_pairsMixedBy_52 : decode (yB m_X3_pairsMixedBy) 52 = .ok (.iload 8, 2) := by decide +kernel
theorem d_X3_pairsMixedBy_54 : decode (yB m_X3_pairsMixedBy) 54 = .ok (.iload 4, 2) := by decide +kernel
theorem d_X3_pairsMixedBy_56 : decode (yB m_X3_pairsMixedBy) 56 = .ok (.iconst (-1), 1) := by decide +kernel
theorem d_X3_pairsMixedBy_57 : decode (yB m_X3_pairsMixedBy) 57 = .ok (.ixor, 1) := by decide +kernel
theorem d_X3_pairsMixedBy_58 : decode (yB m_X3_pairsMixedBy) 58 = .ok (.iand, 1) := by decide +kernel
theorem d_X3_pairsMixedBy_59 : decode (yB m_X3_pairsMixedBy) 59 = .ok (.invokestatic 34, 3) := by decide +kernel
theorem d_X3_pairsMixedBy_62 : decode (yB m_X3_pairsMixedBy) 62 = .ok (.iload_n 3, 1) := by decide +kernel
theorem d_X3_pairsMixedBy_63 : decode (yB m_X3_pairsMixedBy) 63 = .ok (.if_icmp .gt 6, 3) := by decide +kernel
theorem d_X3_pairsMixedBy_66 : decode (yB m_X3_pairsMixedBy) 66 = .ok (.iinc 5 1, 3) := by decide +kernel
theorem d_X3_pairsMixedBy_69 : decode (yB m_X3_pairsMixedBy) 69 = .ok (.iinc 7 1, 3) := by decide +kernel
theorem d_X3_pairsMixedBy_72 : decode (yB m_X3_pairsMixedBy) 72 = .ok (.goto (-44), 3) := by decide +kernel
theorem d_X3_pairsMixedBy_75 : decode (yB m_X3_pairsMixedBy) 75 = .ok (.iinc 6 1, 3) := by decide +kernel
theorem d_X3_pairsMixedBy_78 : decode (yB m_X3_pairsMixedBy) 78 = .ok (.goto (-65), 3) := by decide +kernel
theorem d_X3_pairsMixedBy_81 : decode (yB m_X3_pairsMixedBy) 81 = .ok (.iload 5, 2) := by decide +kernel
theorem d_X3_pairsMixedBy_83 : decode (yB m_X3_pairsMixedBy) 83 = .ok (.ireturn, 1) := by decide +kernel
def fn_X3_pairsMixedBy_28 (a0 : Nat) (v1 : Int32) (a2 : Nat) (v3 : Int32) (D : zD) (k13 : Int32 → Int32 → Int32 → Option Int32) : Nat → Int32 → Int32 → Int32 → Int32 → Option Int32
  | 0, _, _, _, _ => none
  | n + 1, v4, v5, v6, v7 => (if (gI D a2 2) ≤ v7 then ((k13 v4 v5 (v6 + (1 : Int32)))) else ((fn_X0_paintOf a2 v6 D).bind fun x5 => (fn_X0_paintOf a2 v7 D).bind fun x6 => zlet (x5 ^^^ x6) fun x7 => (fn_JI_bitCount (x7 &&& (v4 ^^^ (-1 : Int32)))).bind fun x8 => (if v3 < x8 then (((fn_X3_pairsMixedBy_28 a0 v1 a2 v3 D k13 n) v4 v5 v6 (v7 + (1 : Int32)))) else (((fn_X3_pairsMixedBy_28 a0 v1 a2 v3 D k13 n) v4 (v5 + (1 : Int32)) v6 (v7 + (1 : Int32)))))))
def fn_X3_pairsMixedBy_13 (a0 : Nat) (v1 : Int32) (a2 : Nat) (v3 : Int32) (D : zD) : Nat → Int32 → Int32 → Int32 → Option Int32
  | 0, _, _, _ => none
  | n + 1, v4, v5, v6 => (if (gI D a2 2) ≤ v6 then ((some v5)) else (zlet (v6 + (1 : Int32)) fun x3 => (fn_X3_pairsMixedBy_28 a0 v1 a2 v3 D (fn_X3_pairsMixedBy_13 a0 v1 a2 v3 D n) zFU v4 v5 v6 x3)))
def fn_X3_pairsMixedBy (a0 : Nat) (v1 : Int32) (a2 : Nat) (v3 : Int32) (D : zD) : Option Int32 := (fn_X3_at a0 v1 D).bind fun x1 => (fn_X3_pairsMixedBy_13 a0 v1 a2 v3 D zFU x1 (0 : Int32) (0 : Int32))
theorem s_X3_pairsMixedBy_28 {X : zX} {Sh : zSh} {d : Nat} (hst : (zl X).stackTraces = false) (h0 : zSh0 Sh) (hd : 2 ≤ d) {a0 : Nat} {v1 : Int32} {a2 : Nat} {v3 : Int32} (h_a0 : a0 ∈ zI_3) (h_a2 : a2 ∈ zI_0) (D : zD) (k13 : Int32 → Int32 → Int32 → Option Int32) (hk13 : ∀ (v4 : Int32) (v5 : Int32) (v6 : Int32) , Rn X m_X3_pairsMixedBy (d + 1) 13 [(2, .ref a2), (3, .int v3), (4, .int v4), (5, .int v5), (6, .int v6)] [] (Sh, D) ((oP Sh D) (k13 v4 v5 v6))) : ∀ (n : Nat) (v4 : Int32) (v5 : Int32) (v6 : Int32) (v7 : Int32) , Rn X m_X3_pairsMixedBy (d + 1) 28 [(2, .ref a2), (3, .int v3), (4, .int v4), (5, .int v5), (6, .int v6), (7, .int v7)] [] (Sh, D) ((oP Sh D) (fn_X3_pairsMixedBy_28 a0 v1 a2 v3 D k13 n v4 v5 v6 v7)) := by
  intro n
  induction n with
  | zero => intro v4 v5 v6 v7; exact Rn_none rfl
  | succ n hk28 =>
    intro v4 v5 v6 v7
    rw [fn_X3_pairsMixedBy_28]
    refine r_iload (pc := 28) 5 d_X3_pairsMixedBy_28 rfl ?_
    refine r_aload_n (pc := 30) 0 d_X3_pairsMixedBy_30 rfl rfl ?_
    refine q_gIn (pc := 31) g_X3_47 (LK_0 h0 h_a2) rfl d_X3_pairsMixedBy_31 ?_
    refine r_icmp_ge (f := (oP Sh D)) (pc := 34) 75 d_X3_pairsMixedBy_34 (by decide) (fun c4 => ?_) (fun c4 => ?_)
    · refine r_iinc (pc := 75) ((v6 + (1 : Int32))) 4 (ls' := [(6, .int (v6 + (1 : Int32))), (2, .ref a2), (3, .int v3), (4, .int v4), (5, .int v5), (7, .int v7)]) d_X3_pairsMixedBy_75 rfl rfl (Nat.le_of_ble_eq_true rfl) rfl ?_
      refine r_goto (pc := 78) 13 d_X3_pairsMixedBy_78 (by decide) ?_
      refine r_pick [1, 2, 3, 4, 0] (ls' := [(2, .ref a2), (3, .int v3), (4, .int v4), (5, .int v5), (6, .int (v6 + (1 : Int32)))]) rfl ?_
      exact hk13 v4 v5 (v6 + (1 : Int32)) 
    · refine r_aload_n (pc := 37) 0 d_X3_pairsMixedBy_37 rfl rfl ?_
      refine r_iload (pc := 38) 4 d_X3_pairsMixedBy_38 rfl ?_
      refine q_cP (f := (oP Sh D)) (av := [.ref a2, .int v6]) (st := []) (z_runV ck_X0_paintOf rfl ml_X3_52 ci_X0_paintOf cv_X0_paintOf (LK_0 h0 h_a2) (ci := 0) rfl rfl (Nat.le_of_ble_eq_true rfl) d_X3_pairsMixedBy_40) (s_X0_paintOf hst h0 (by omega) h_a2) kp_P (fun x5 _ => ?_)
      refine r_aload_n (pc := 43) 0 d_X3_pairsMixedBy_43 rfl rfl ?_
      refine r_iload (pc := 44) 5 d_X3_pairsMixedBy_44 rfl ?_
      refine q_cP (f := (oP Sh D)) (av := [.ref a2, .int v7]) (st := [.int x5]) (z_runV ck_X0_paintOf rfl ml_X3_52 ci_X0_paintOf cv_X0_paintOf (LK_0 h0 h_a2) (ci := 0) rfl rfl (Nat.le_of_ble_eq_true rfl) d_X3_pairsMixedBy_46) (s_X0_paintOf hst h0 (by omega) h_a2) kp_P (fun x6 _ => ?_)
      refine r_ixor (pc := 49) d_X3_pairsMixedBy_49 ?_
      refine r_leti (f := (oP Sh D)) (fun x7 => ?_)
      refine r_istore (pc := 50) (ls' := [(8, .int x7), (2, .ref a2), (3, .int v3), (4, .int v4), (5, .int v5), (6, .int v6), (7, .int v7)]) d_X3_pairsMixedBy_50 (Nat.le_of_ble_eq_true rfl) rfl ?_
      refine r_iload (pc := 52) 0 d_X3_pairsMixedBy_52 rfl ?_
      refine r_iload (pc := 54) 3 d_X3_pairsMixedBy_54 rfl ?_
      refine r_iconst (pc := 56) (-1 : Int32) d_X3_pairsMixedBy_56 rfl ?_
      refine r_ixor (pc := 57) d_X3_pairsMixedBy_57 ?_
      refine r_iand (pc := 58) d_X3_pairsMixedBy_58 ?_
      refine q_cP (f := (oP Sh D)) (av := [.int (x7 &&& (v4 ^^^ (-1 : Int32)))]) (st := []) (z_runS ck_JI_bitCount rfl ml_X3_34 cs_JI_bitCount rfl (Nat.le_of_ble_eq_true rfl) d_X3_pairsMixedBy_59) (s_JI_bitCount hst h0 (by omega)) kp_P (fun x8 _ => ?_)
      refine r_iload_n (pc := 62) 2 d_X3_pairsMixedBy_62 rfl rfl ?_
      refine r_icmp_gt (f := (oP Sh D)) (pc := 63) 69 d_X3_pairsMixedBy_63 (by decide) (fun c9 => ?_) (fun c9 => ?_)
      · refine r_iinc (pc := 69) ((v7 + (1 : Int32))) 6 (ls' := [(7, .int (v7 + (1 : Int32))), (8, .int x7), (2, .ref a2), (3, .int v3), (4, .int v4), (5, .int v5), (6, .int v6)]) d_X3_pairsMixedBy_69 rfl rfl (Nat.le_of_ble_eq_true rfl) rfl ?_
        refine r_goto (pc := 72) 28 d_X3_pairsMixedBy_72 (by decide) ?_
        refine r_pick [2, 3, 4, 5, 6, 0] (ls' := [(2, .ref a2), (3, .int v3), (4, .int v4), (5, .int v5), (6, .int v6), (7, .int (v7 + (1 : Int32)))]) rfl ?_
        exact hk28 v4 v5 v6 (v7 + (1 : Int32)) 
      · refine r_iinc (pc := 66) ((v5 + (1 : Int32))) 4 (ls' := [(5, .int (v5 + (1 : Int32))), (8, .int x7), (2, .ref a2), (3, .int v3), (4, .int v4), (6, .int v6), (7, .int v7)]) d_X3_pairsMixedBy_66 rfl rfl (Nat.le_of_ble_eq_true rfl) rfl ?_
        refine r_iinc (pc := 69) ((v7 + (1 : Int32))) 6 (ls' := [(7, .int (v7 + (1 : Int32))), (5, .int (v5 + (1 : Int32))), (8, .int x7), (2, .ref a2), (3, .int v3), (4, .int v4), (6, .int v6)]) d_X3_pairsMixedBy_69 rfl rfl (Nat.le_of_ble_eq_true rfl) rfl ?_
        refine r_goto (pc := 72) 28 d_X3_pairsMixedBy_72 (by decide) ?_
        refine r_pick [3, 4, 5, 1, 6, 0] (ls' := [(2, .ref a2), (3, .int v3), (4, .int v4), (5, .int (v5 + (1 : Int32))), (6, .int v6), (7, .int (v7 + (1 : Int32)))]) rfl ?_
        exact hk28 v4 (v5 + (1 : Int32)) v6 (v7 + (1 : Int32)) 
theorem s_X3_pairsMixedBy_13 {X : zX} {Sh : zSh} {d : Nat} (hst : (zl X).stackTraces = false) (h0 : zSh0 Sh) (hd : 2 ≤ d) {a0 : Nat} {v1 : Int32} {a2 : Nat} {v3 : Int32} (h_a0 : a0 ∈ zI_3) (h_a2 : a2 ∈ zI_0) (D : zD) : ∀ (n : Nat) (v4 : Int32) (v5 : Int32) (v6 : Int32) , Rn X m_X3_pairsMixedBy (d + 1) 13 [(2, .ref a2), (3, .int v3), (4, .int v4), (5, .int v5), (6, .int v6)] [] (Sh, D) ((oP Sh D) (fn_X3_pairsMixedBy_13 a0 v1 a2 v3 D n v4 v5 v6)) := by
  intro n
  induction n with
  | zero => intro v4 v5 v6; exact Rn_none rfl
  | succ n hk13 =>
    intro v4 v5 v6
    rw [fn_X3_pairsMixedBy_13]
    refine r_iload (pc := 13) 4 d_X3_pairsMixedBy_13 rfl ?_
    refine r_aload_n (pc := 15) 0 d_X3_pairsMixedBy_15 rfl rfl ?_
    refine q_gIn (pc := 16) g_X3_47 (LK_0 h0 h_a2) rfl d_X3_pairsMixedBy_16 ?_
    refine r_icmp_ge (f := (oP Sh D)) (pc := 19) 81 d_X3_pairsMixedBy_19 (by decide) (fun c2 => ?_) (fun c2 => ?_)
    · refine r_iload (pc := 81) 3 d_X3_pairsMixedBy_81 rfl ?_
      exact r_iret (pc := 83) rfl d_X3_pairsMixedBy_83
    · refine r_iload (pc := 22) 4 d_X3_pairsMixedBy_22 rfl ?_
      refine r_iconst (pc := 24) (1 : Int32) d_X3_pairsMixedBy_24 rfl ?_
      refine r_iadd (pc := 25) d_X3_pairsMixedBy_25 ?_
      refine r_leti (f := (oP Sh D)) (fun x3 => ?_)
      refine r_istore (pc := 26) (ls' := [(7, .int x3), (2, .ref a2), (3, .int v3), (4, .int v4), (5, .int v5), (6, .int v6)]) d_X3_pairsMixedBy_26 (Nat.le_of_ble_eq_true rfl) rfl ?_
      refine r_pick [1, 2, 3, 4, 5, 0] (ls' := [(2, .ref a2), (3, .int v3), (4, .int v4), (5, .int v5), (6, .int v6), (7, .int x3)]) rfl ?_
      exact s_X3_pairsMixedBy_28 hst h0 hd h_a0 h_a2 D (fn_X3_pairsMixedBy_13 a0 v1 a2 v3 D n) hk13 zFU  v4 v5 v6 x3
theorem s_X3_pairsMixedBy {X : zX} {Sh : zSh} {d : Nat} (hst : (zl X).stackTraces = false) (h0 : zSh0 Sh) (hd : 3 ≤ d) {a0 : Nat} {v1 : Int32} {a2 : Nat} {v3 : Int32} (h_a0 : a0 ∈ zI_3) (h_a2 : a2 ∈ zI_0) {D : zD} : Sd X m_X3_pairsMixedBy d [.ref a0, .int v1, .ref a2, .int v3] (Sh, D) ((oP Sh D) (fn_X3_pairsMixedBy a0 v1 a2 v3 D)) := by
  obtain ⟨d, rfl⟩ : ∃ e, d = e + 1 := ⟨d - 1, by omega⟩
  replace hd : 2 ≤ d := by omega
  refine z_body ck_X3_pairsMixedBy rfl (Nat.le_of_ble_eq_true rfl) rfl hst ?_
  rw [fn_X3_pairsMixedBy]
  show Rn X m_X3_pairsMixedBy (d + 1) 0 [(0, .ref a0), (1, .int v1), (2, .ref a2), (3, .int v3)] [] (Sh, D) _
  refine r_aload_n (pc := 0) 0 d_X3_pairsMixedBy_0 rfl rfl ?_
  refine r_iload_n (pc := 1) 1 d_X3_pairsMixedBy_1 rfl rfl ?_
  refine q_cP (f := (oP Sh D)) (av := [.ref a0, .int v1]) (st := []) (z_runV ck_X3_at rfl ml_X3_44 ci_X3_at cv_X3_at (LK_3 h0 h_a0) (ci := 3) rfl rfl (Nat.le_of_ble_eq_true rfl) d_X3_pairsMixedBy_2) (s_X3_at hst h0 (by omega) h_a0) kp_P (fun x1 _ => ?_)
  refine r_istore (pc := 5) (ls' := [(4, .int x1), (0, .ref a0), (1, .int v1), (2, .ref a2), (3, .int v3)]) d_X3_pairsMixedBy_5 (Nat.le_of_ble_eq_true rfl) rfl ?_
  refine r_iconst (pc := 7) (0 : Int32) d_X3_pairsMixedBy_7 rfl ?_
  refine r_istore (pc := 8) (ls' := [(5, .int (0 : Int32)), (4, .int x1), (0, .ref a0), (1, .int v1), (2, .ref a2), (3, .int v3)]) d_X3_pairsMixedBy_8 (Nat.le_of_ble_eq_true rfl) rfl ?_
  refine r_iconst (pc := 10) (0 : Int32) d_X3_pairsMixedBy_10 rfl ?_
  refine r_istore (pc := 11) (ls' := [(6, .int (0 : Int32)), (5, .int (0 : Int32)), (4, .int x1), (0, .ref a0), (1, .int v1), (2, .ref a2), (3, .int v3)]) d_X3_pairsMixedBy_11 (Nat.le_of_ble_eq_true rfl) rfl ?_
  refine r_pick [5, 6, 2, 1, 0] (ls' := [(2, .ref a2), (3, .int v3), (4, .int x1), (5, .int (0 : Int32)), (6, .int (0 : Int32))]) rfl ?_
  exact s_X3_pairsMixedBy_13 hst h0 hd h_a0 h_a2 D zFU  x1 (0 : Int32) (0 : Int32)
/-! CoveredSigns$Covers.blindest -/
theorem d_X3_blindest_0 : decode (yB m_X3_blindest) 0 = .ok (.iconst 0, 1) := by decide +kernel
theorem d_X3_blindest_1 : decode (yB m_X3_blindest) 1 = .ok (.istore_n 3, 1) := by decide +kernel
theorem d_X3_blindest_2 : decode (yB m_X3_blindest) 2 = .ok (.iconst 0, 1) := by decide +kernel
theorem d_X3_blindest_3 : decode (yB m_X3_blindest) 3 = .ok (.istore 4, 2) := by decide +kernel
theorem d_X3_blindest_5 : decode (yB m_X3_blindest) 5 = .ok (.iconst 0, 1) := by decide +kernel
theorem d_X3_blindest_6 : decode (yB m_X3_blindest) 6 = .ok (.istore 5, 2) := by decide +kernel
theorem d_X3_blindest_8 : decode (yB m_X3_blindest) 8 = .ok (.iload 5, 2) := by decide +kernel
theorem d_X3_blindest_10 : decode (yB m_X3_blindest) 10 = .ok (.aload_n 0, 1) := by decide +kernel
theorem d_X3_blindest_11 : decode (yB m_X3_blindest) 11 = .ok (.getfield 15, 3) := by decide +kernel
theorem d_X3_blindest_14 : decode (yB m_X3_blindest) 14 = .ok (.if_icmp .ge 33, 3) := by decide +kernel
theorem d_X3_blindest_17 : decode (yB m_X3_blindest) 17 = .ok (.aload_n 0, 1) := by decide +kernel
theorem d_X3_blindest_18 : decode (yB m_X3_blindest) 18 = .ok (.iload 5, 2) := by decide +kernel
theorem d_X3_blindest_20 : decode (yB m_X3_blindest) 20 = .ok (.aload_n 1, 1) := by decide +kernel
theorem d_X3_blindest_21 : decode (yB m_X3_blindest) 21 = .ok (.iload_n 2, 1) := by decide +kernel
theorem d_X3_blindest_22 : decode (yB m_X3_blindest) 22 = .ok (.invokevirtual 55, 3) := by decide +kernel
theorem d_X3_blindest_25 : decode (yB m_X3_blindest) 25 = .ok (.istore 6, 2) := by decide +kernel
theorem d_X3_blindest_27 : decode (yB m_X3_blindest) 27 = .ok (.iload 6, 2) := by decide +kernel
theorem d_X3_blindest_29 : decode (yB m_X3_blindest) 29 = .ok (.iload 4, 2) := by decide +kernel
theorem d_X3_blindest_31 : decode (yB m_X3_blindest) 31 = .ok (.if_icmp .le 10, 3) := by decide +kernel
theorem d_X3_blindest_34 : decode (yB m_X3_blindest) 34 = .ok (.iload 6, 2) := by decide +kernel
theorem d_X3_blindest_36 : decode (yB m_X3_blindest) 36 = .ok (.istore 4, 2) := by decide +kernel
theorem d_X3_blindest_38 : decode (yB m_X3_blindest) 38 = .ok (.iload 5, 2) := by decide +kernel
theorem d_X3_blindest_40 : decode (yB m_X3_blindest) 40 = .ok (.istore_n 3, 1) := by decide +kernel
theorem d_X3_blindest_41 : decode (yB m_X3_blindest) 41 = .ok (.iinc 5 1, 3) := by decide +kernel
theorem d_X3_blindest_44 : decode (yB m_X3_blindest) 44 = .ok (.goto (-36), 3) := by decide +kernel
theorem d_X3_blindest_47 : decode (yB m_X3_blindest) 47 = .ok (.iload_n 3, 1) := by decide +kernel
theorem d_X3_blindest_48 : decode (yB m_X3_blindest) 48 = .ok (.ireturn, 1) := by decide +kernel
def fn_X3_blindest_8 (a0 : Nat) (a1 : Nat) (v2 : Int32) (D : zD) : Nat → Int32 → Int32 → Int32 → Option Int32
  | 0, _, _, _ => none
  | n + 1, v3, v4, v5 => (if (gI D a0 1) ≤ v5 then ((some v3)) else ((fn_X3_pairsMixedBy a0 v5 a1 v2 D).bind fun x2 => (if x2 ≤ v4 then (((fn_X3_blindest_8 a0 a1 v2 D n) v3 v4 (v5 + (1 : Int32)))) else (((fn_X3_blindest_8 a0 a1 v2 D n) v5 x2 (v5 + (1 : Int32)))))))
def fn_X3_blindest (a0 : Nat) (a1 : Nat) (v2 : Int32) (D : zD) : Option Int32 := (fn_X3_blindest_8 a0 a1 v2 D zFU (0 : Int32) (0 : Int32) (0 : Int32))
theorem s_X3_blindest_8 {X : zX} {Sh : zSh} {d : Nat} (hst : (zl X).stackTraces = false) (h0 : zSh0 Sh) (hd : 3 ≤ d) {a0 : Nat} {a1 : Nat} {v2 : Int32} (h_a0 : a0 ∈ zI_3) (h_a1 : a1 ∈ zI_0) (D : zD) : ∀ (n : Nat) (v3 : Int32) (v4 : Int32) (v5 : Int32) , Rn X m_X3_blindest (d + 1) 8 [(0, .ref a0), (1, .ref a1), (2, .int v2), (3, .int v3), (4, .int v4), (5, .int v5)] [] (Sh, D) ((oP Sh D) (fn_X3_blindest_8 a0 a1 v2 D n v3 v4 v5)) := by
  intro n
  induction n with
  | zero => intro v3 v4 v5; exact Rn_none rfl
  | succ n hk8 =>
    intro v3 v4 v5
    rw [fn_X3_blindest_8]
    refine r_iload (pc := 8) 5 d_X3_blindest_8 rfl ?_
    refine r_aload_n (pc := 10) 0 d_X3_blindest_10 rfl rfl ?_
    refine q_gI (pc := 11) g_X3_15 (LK_3 h0 h_a0) rfl d_X3_blindest_11 ?_
    refine r_icmp_ge (f := (oP Sh D)) (pc := 14) 47 d_X3_blindest_14 (by decide) (fun c1 => ?_) (fun c1 => ?_)
    · refine r_iload_n (pc := 47) 3 d_X3_blindest_47 rfl rfl ?_
      exact r_iret (pc := 48) rfl d_X3_blindest_48
    · refine r_aload_n (pc := 17) 0 d_X3_blindest_17 rfl rfl ?_
      refine r_iload (pc := 18) 5 d_X3_blindest_18 rfl ?_
      refine r_aload_n (pc := 20) 1 d_X3_blindest_20 rfl rfl ?_
      refine r_iload_n (pc := 21) 2 d_X3_blindest_21 rfl rfl ?_
      refine q_cP (f := (oP Sh D)) (av := [.ref a0, .int v5, .ref a1, .int v2]) (st := []) (z_runV ck_X3_pairsMixedBy rfl ml_X3_55 ci_X3_pairsMixedBy cv_X3_pairsMixedBy (LK_3 h0 h_a0) (ci := 3) rfl rfl (Nat.le_of_ble_eq_true rfl) d_X3_blindest_22) (s_X3_pairsMixedBy hst h0 (by omega) h_a0 h_a1) kp_P (fun x2 _ => ?_)
      refine r_istore (pc := 25) (ls' := [(6, .int x2), (0, .ref a0), (1, .ref a1), (2, .int v2), (3, .int v3), (4, .int v4), (5, .int v5)]) d_X3_blindest_25 (Nat.le_of_ble_eq_true rfl) rfl ?_
      refine r_iload (pc := 27) 0 d_X3_blindest_27 rfl ?_
      refine r_iload (pc := 29) 5 d_X3_blindest_29 rfl ?_
      refine r_icmp_le (f := (oP Sh D)) (pc := 31) 41 d_X3_blindest_31 (by decide) (fun c3 => ?_) (fun c3 => ?_)
      · refine r_iinc (pc := 41) ((v5 + (1 : Int32))) 6 (ls' := [(5, .int (v5 + (1 : Int32))), (6, .int x2), (0, .ref a0), (1, .ref a1), (2, .int v2), (3, .int v3), (4, .int v4)]) d_X3_blindest_41 rfl rfl (Nat.le_of_ble_eq_true rfl) rfl ?_
        refine r_goto (pc := 44) 8 d_X3_blindest_44 (by decide) ?_
        refine r_pick [2, 3, 4, 5, 6, 0] (ls' := [(0, .ref a0), (1, .ref a1), (2, .int v2), (3, .int v3), (4, .int v4), (5, .int (v5 + (1 : Int32)))]) rfl ?_
        exact hk8 v3 v4 (v5 + (1 : Int32)) 
      · refine r_iload (pc := 34) 0 d_X3_blindest_34 rfl ?_
        refine r_istore (pc := 36) (ls' := [(4, .int x2), (6, .int x2), (0, .ref a0), (1, .ref a1), (2, .int v2), (3, .int v3), (5, .int v5)]) d_X3_blindest_36 (Nat.le_of_ble_eq_true rfl) rfl ?_
        refine r_iload (pc := 38) 6 d_X3_blindest_38 rfl ?_
        refine r_istore_n (pc := 40) (ls' := [(3, .int v5), (4, .int x2), (6, .int x2), (0, .ref a0), (1, .ref a1), (2, .int v2), (5, .int v5)]) d_X3_blindest_40 rfl (Nat.le_of_ble_eq_true rfl) rfl ?_
        refine r_iinc (pc := 41) ((v5 + (1 : Int32))) 6 (ls' := [(5, .int (v5 + (1 : Int32))), (3, .int v5), (4, .int x2), (6, .int x2), (0, .ref a0), (1, .ref a1), (2, .int v2)]) d_X3_blindest_41 rfl rfl (Nat.le_of_ble_eq_true rfl) rfl ?_
        refine r_goto (pc := 44) 8 d_X3_blindest_44 (by decide) ?_
        refine r_pick [4, 5, 6, 1, 2, 0] (ls' := [(0, .ref a0), (1, .ref a1), (2, .int v2), (3, .int v5), (4, .int x2), (5, .int (v5 + (1 : Int32)))]) rfl ?_
        exact hk8 v5 x2 (v5 + (1 : Int32)) 
theorem s_X3_blindest {X : zX} {Sh : zSh} {d : Nat} (hst : (zl X).stackTraces = false) (h0 : zSh0 Sh) (hd : 4 ≤ d) {a0 : Nat} {a1 : Nat} {v2 : Int32} (h_a0 : a0 ∈ zI_3) (h_a1 : a1 ∈ zI_0) {D : zD} : Sd X m_X3_blindest d [.ref a0, .ref a1, .int v2] (Sh, D) ((oP Sh D) (fn_X3_blindest a0 a1 v2 D)) := by
  obtain ⟨d, rfl⟩ : ∃ e, d = e + 1 := ⟨d - 1, by omega⟩
  replace hd : 3 ≤ d := by omega
  refine z_body ck_X3_blindest rfl (Nat.le_of_ble_eq_true rfl) rfl hst ?_
  rw [fn_X3_blindest]
  show Rn X m_X3_blindest (d + 1) 0 [(0, .ref a0), (1, .ref a1), (2, .int v2)] [] (Sh, D) _
  refine r_iconst (pc := 0) (0 : Int32) d_X3_blindest_0 rfl ?_
  refine r_istore_n (pc := 1) (ls' := [(3, .int (0 : Int32)), (0, .ref a0), (1, .ref a1), (2, .int v2)]) d_X3_blindest_1 rfl (Nat.le_of_ble_eq_true rfl) rfl ?_
  refine r_iconst (pc := 2) (0 : Int32) d_X3_blindest_2 rfl ?_
  refine r_istore (pc := 3) (ls' := [(4, .int (0 : Int32)), (3, .int (0 : Int32)), (0, .ref a0), (1, .ref a1), (2, .int v2)]) d_X3_blindest_3 (Nat.le_of_ble_eq_true rfl) rfl ?_
  refine r_iconst (pc := 5) (0 : Int32) d_X3_blindest_5 rfl ?_
  refine r_istore (pc := 6) (ls' := [(5, .int (0 : Int32)), (4, .int (0 : Int32)), (3, .int (0 : Int32)), (0, .ref a0), (1, .ref a1), (2, .int v2)]) d_X3_blindest_6 (Nat.le_of_ble_eq_true rfl) rfl ?_
  refine r_pick [3, 4, 5, 2, 1, 0] (ls' := [(0, .ref a0), (1, .ref a1), (2, .int v2), (3, .int (0 : Int32)), (4, .int (0 : Int32)), (5, .int (0 : Int32))]) rfl ?_
  exact s_X3_blindest_8 hst h0 hd h_a0 h_a1 D zFU  (0 : Int32) (0 : Int32) (0 : Int32)
/-! CoveredSigns$Covers.largest -/
theorem d_X3_largest_0 : decode (yB m_X3_largest) 0 = .ok (.iconst 0, 1) := by decide +kernel
theorem d_X3_largest_1 : decode (yB m_X3_largest) 1 = .ok (.istore_n 1, 1) := by decide +kernel
theorem d_X3_largest_2 : decode (yB m_X3_largest) 2 = .ok (.iconst 0, 1) := by decide +kernel
theorem d_X3_largest_3 : decode (yB m_X3_largest) 3 = .ok (.istore_n 2, 1) := by decide +kernel
theorem d_X3_largest_4 : decode (yB m_X3_largest) 4 = .ok (.iload_n 2, 1) := by decide +kernel
theorem d_X3_largest_5 : decode (yB m_X3_largest) 5 = .ok (.aload_n 0, 1) := by decide +kernel
theorem d_X3_largest_6 : decode (yB m_X3_largest) 6 = .ok (.getfield 15, 3) := by decide +kernel
theorem d_X3_largest_9 : decode (yB m_X3_largest) 9 = .ok (.if_icmp .ge 30, 3) := by decide +kernel
theorem d_X3_largest_12 : decode (yB m_X3_largest) 12 = .ok (.iload_n 2, 1) := by decide +kernel
theorem d_X3_largest_13 : decode (yB m_X3_largest) 13 = .ok (.sipush 500, 3) := by decide +kernel
theorem d_X3_largest_16 : decode (yB m_X3_largest) 16 = .ok (.if_icmp .ge 23, 3) := by decide +kernel
theorem d_X3_largest_19 : decode (yB m_X3_largest) 19 = .ok (.iload_n 1, 1) := by decide +kernel
theorem d_X3_largest_20 : decode (yB m_X3_largest) 20 = .ok (.aload_n 0, 1) := by decide +kernel
theorem d_X3_largest_21 : decode (yB m_X3_largest) 21 = .ok (.getfield 9, 3) := by decide +kernel
theorem d_X3_largest_24 : decode (yB m_X3_largest) 24 = .ok (.iload_n 2, 1) := by decide +kernel
theorem d_X3_largest_25 : decode (yB m_X3_largest) 25 = .ok (.iaload, 1) := by decide +kernel
theorem d_X3_largest_26 : decode (yB m_X3_largest) 26 = .ok (.invokestatic 34, 3) := by decide +kernel
theorem d_X3_largest_29 : decode (yB m_X3_largest) 29 = .ok (.invokestatic 25, 3) := by decide +kernel
theorem d_X3_largest_32 : decode (yB m_X3_largest) 32 = .ok (.istore_n 1, 1) := by decide +kernel
theorem d_X3_largest_33 : decode (yB m_X3_largest) 33 = .ok (.iinc 2 1, 3) := by decide +kernel
theorem d_X3_largest_36 : decode (yB m_X3_largest) 36 = .ok (.goto (-32), 3) := by decide +kernel
theorem d_X3_largest_39 : decode (yB m_X3_largest) 39 = .ok (.iload_n 1, 1) := by decide +kernel
theorem d_X3_largest_40 : decode (yB m_X3_largest) 40 = .ok (.ireturn, 1) := by decide +kernel
def fn_X3_largest_4 (a0 : Nat) (D : zD) : Nat → Int32 → Int32 → Option Int32
  | 0, _, _ => none
  | n + 1, v1, v2 => (if (gI D a0 1) ≤ v2 then ((some v1)) else ((if (500 : Int32) ≤ v2 then ((some v1)) else (zck v2 500 <| (fn_JI_bitCount (gI D (a0 + 1) v2.toNatClampNeg)).bind fun x4 => zlet (zmx v1 x4) fun x5 => ((fn_X3_largest_4 a0 D n) x5 (v2 + (1 : Int32)))))))
def fn_X3_largest (a0 : Nat) (D : zD) : Option Int32 := (fn_X3_largest_4 a0 D zFU (0 : Int32) (0 : Int32))
theorem s_X3_largest_4 {X : zX} {Sh : zSh} {d : Nat} (hst : (zl X).stackTraces = false) (h0 : zSh0 Sh) (hd : 1 ≤ d) {a0 : Nat} (h_a0 : a0 ∈ zI_3) (D : zD) : ∀ (n : Nat) (v1 : Int32) (v2 : Int32) , Rn X m_X3_largest (d + 1) 4 [(0, .ref a0), (1, .int v1), (2, .int v2)] [] (Sh, D) ((oP Sh D) (fn_X3_largest_4 a0 D n v1 v2)) := by
  intro n
  induction n with
  | zero => intro v1 v2; exact Rn_none rfl
  | succ n hk4 =>
    intro v1 v2
    rw [fn_X3_largest_4]
    refine r_iload_n (pc := 4) 2 d_X3_largest_4 rfl rfl ?_
    refine r_aload_n (pc := 5) 0 d_X3_largest_5 rfl rfl ?_
    refine q_gI (pc := 6) g_X3_15 (LK_3 h0 h_a0) rfl d_X3_largest_6 ?_
    refine r_icmp_ge (f := (oP Sh D)) (pc := 9) 39 d_X3_largest_9 (by decide) (fun c1 => ?_) (fun c1 => ?_)
    · refine r_iload_n (pc := 39) 1 d_X3_largest_39 rfl rfl ?_
      exact r_iret (pc := 40) rfl d_X3_largest_40
    · refine r_iload_n (pc := 12) 2 d_X3_largest_12 rfl rfl ?_
      refine r_sipush (pc := 13) (500 : Int32) d_X3_largest_13 rfl ?_
      refine r_icmp_ge (f := (oP Sh D)) (pc := 16) 39 d_X3_largest_16 (by decide) (fun c2 => ?_) (fun c2 => ?_)
      · refine r_iload_n (pc := 39) 1 d_X3_largest_39 rfl rfl ?_
        exact r_iret (pc := 40) rfl d_X3_largest_40
      · refine r_iload_n (pc := 19) 1 d_X3_largest_19 rfl rfl ?_
        refine r_aload_n (pc := 20) 0 d_X3_largest_20 rfl rfl ?_
        refine r_getR (pc := 21) g_X3_9 (LK_3 h0 h_a0) rfl (LR_3_0 h0 h_a0) d_X3_largest_21 ?_
        refine r_iload_n (pc := 24) 2 d_X3_largest_24 rfl rfl ?_
        refine r_ck (f := (oP Sh D)) rfl (fun hc3 => ?_)
        refine q_iald (pc := 25) (j := v2.toNatClampNeg) (LA_3_0 h0 h_a0) hc3 rfl d_X3_largest_25 ?_
        refine q_cP (f := (oP Sh D)) (av := [.int (gI D (a0 + 1) v2.toNatClampNeg)]) (st := [.int v1]) (z_runS ck_JI_bitCount rfl ml_X3_34 cs_JI_bitCount rfl (Nat.le_of_ble_eq_true rfl) d_X3_largest_26) (s_JI_bitCount hst h0 (by omega)) kp_P (fun x4 _ => ?_)
        refine r_mmax (pc := 29) ml_X3_25 (by omega) (Nat.le_of_ble_eq_true rfl) d_X3_largest_29 ?_
        refine r_leti (f := (oP Sh D)) (fun x5 => ?_)
        refine r_istore_n (pc := 32) (ls' := [(1, .int x5), (0, .ref a0), (2, .int v2)]) d_X3_largest_32 rfl (Nat.le_of_ble_eq_true rfl) rfl ?_
        refine r_iinc (pc := 33) ((v2 + (1 : Int32))) 2 (ls' := [(2, .int (v2 + (1 : Int32))), (1, .int x5), (0, .ref a0)]) d_X3_largest_33 rfl rfl (Nat.le_of_ble_eq_true rfl) rfl ?_
        refine r_goto (pc := 36) 4 d_X3_largest_36 (by decide) ?_
        refine r_pick [2, 1, 0] (ls' := [(0, .ref a0), (1, .int x5), (2, .int (v2 + (1 : Int32)))]) rfl ?_
        exact hk4 x5 (v2 + (1 : Int32)) 
theorem s_X3_largest {X : zX} {Sh : zSh} {d : Nat} (hst : (zl X).stackTraces = false) (h0 : zSh0 Sh) (hd : 2 ≤ d) {a0 : Nat} (h_a0 : a0 ∈ zI_3) {D : zD} : Sd X m_X3_largest d [.ref a0] (Sh, D) ((oP Sh D) (fn_X3_largest a0 D)) := by
  obtain ⟨d, rfl⟩ : ∃ e, d = e + 1 := ⟨d - 1, by omega⟩
  replace hd : 1 ≤ d := by omega
  refine z_body ck_X3_largest rfl (Nat.le_of_ble_eq_true rfl) rfl hst ?_
  rw [fn_X3_largest]
  show Rn X m_X3_largest (d + 1) 0 [(0, .ref a0)] [] (Sh, D) _
  refine r_iconst (pc := 0) (0 : Int32) d_X3_largest_0 rfl ?_
  refine r_istore_n (pc := 1) (ls' := [(1, .int (0 : Int32)), (0, .ref a0)]) d_X3_largest_1 rfl (Nat.le_of_ble_eq_true rfl) rfl ?_
  refine r_iconst (pc := 2) (0 : Int32) d_X3_largest_2 rfl ?_
  refine r_istore_n (pc := 3) (ls' := [(2, .int (0 : Int32)), (1, .int (0 : Int32)), (0, .ref a0)]) d_X3_largest_3 rfl (Nat.le_of_ble_eq_true rfl) rfl ?_
  refine r_pick [2, 1, 0] (ls' := [(0, .ref a0), (1, .int (0 : Int32)), (2, .int (0 : Int32))]) rfl ?_
  exact s_X3_largest_4 hst h0 hd h_a0 D zFU  (0 : Int32) (0 : Int32)

