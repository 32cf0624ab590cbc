/-! CoveredSignsModel.layAlike -/
theorem d_X12_layAlike_0 : decode (yB m_X12_layAlike) 0 = .ok (.iconst 0, 1) := by decide +kernel
theorem d_X12_layAlike_1 : decode (yB m_X12_layAlike) 1 = .ok (.istore_n 1, 1) := by decide +kernel
theorem d_X12_layAlike_2 : decode (yB m_X12_layAlike) 2 = .ok (.iload_n 1, 1) := by decide +kernel
theorem d_X12_layAlike_3 : decode (yB m_X12_layAlike) 3 = .ok (.aload_n 0, 1) := by decide +kernel
theorem d_X12_layAlike_4 : decode (yB m_X12_layAlike) 4 = .ok (.invokevirtual 269, 3) := by decide +kernel
theorem d_X12_layAlike_7 : decode (yB m_X12_layAlike) 7 = .ok (.if_icmp .gt 30, 3) := by decide +kernel
theorem d_X12_layAlike_10 : decode (yB m_X12_layAlike) 10 = .ok (.aload_n 0, 1) := by decide +kernel
theorem d_X12_layAlike_11 : decode (yB m_X12_layAlike) 11 = .ok (.getfield 97, 3) := by decide +kernel
theorem d_X12_layAlike_14 : decode (yB m_X12_layAlike) 14 = .ok (.iload_n 1, 1) := by decide +kernel
theorem d_X12_layAlike_15 : decode (yB m_X12_layAlike) 15 = .ok (.aload_n 0, 1) := by decide +kernel
theorem d_X12_layAlike_16 : decode (yB m_X12_layAlike) 16 = .ok (.iload_n 1, 1) := by decide +kernel
theorem d_X12_layAlike_17 : decode (yB m_X12_layAlike) 17 = .ok (.iconst 0, 1) := by decide +kernel
theorem d_X12_layAlike_18 : decode (yB m_X12_layAlike) 18 = .ok (.invokevirtual 302, 3) := by decide +kernel
theorem d_X12_layAlike_21 : decode (yB m_X12_layAlike) 21 = .ok (.iconst (-1), 1) := by decide +kernel
theorem d_X12_layAlike_22 : decode (yB m_X12_layAlike) 22 = .ok (.if_icmp .eq 7, 3) := by decide +kernel
theorem d_X12_layAlike_25 : decode (yB m_X12_layAlike) 25 = .ok (.iconst 1, 1) := by decide +kernel
theorem d_X12_layAlike_26 : decode (yB m_X12_layAlike) 26 = .ok (.goto 4, 3) := by decide +kernel
theorem d_X12_layAlike_29 : decode (yB m_X12_layAlike) 29 = .ok (.iconst 0, 1) := by decide +kernel
theorem d_X12_layAlike_30 : decode (yB m_X12_layAlike) 30 = .ok (.bastore, 1) := by decide +kernel
theorem d_X12_layAlike_31 : decode (yB m_X12_layAlike) 31 = .ok (.iinc 1 1, 3) := by decide +kernel
theorem d_X12_layAlike_34 : decode (yB m_X12_layAlike) 34 = .ok (.goto (-32), 3) := by decide +kernel
theorem d_X12_layAlike_37 : decode (yB m_X12_layAlike) 37 = .ok (.return_, 1) := by decide +kernel
def fn_X12_layAlike_2  : Nat → Int32 → zD → Option zD
  | 0, _, _ => none
  | n + 1, v1, D => (fn_X12_allCells D).bind fun x1 => (if x1 < v1 then ((some D)) else ((fn_X12_firstCover v1 (0 : Int32) D).bind fun x3 => (if x3 = (-1 : Int32) then (zck v1 4096 <| zlet (sI D 201 v1.toNatClampNeg (0 : Int32)) fun D6 => ((fn_X12_layAlike_2  n) (v1 + (1 : Int32)) D6)) else (zck v1 4096 <| zlet (sI D 201 v1.toNatClampNeg (1 : Int32)) fun D8 => ((fn_X12_layAlike_2  n) (v1 + (1 : Int32)) D8)))))
def fn_X12_layAlike (D : zD) : Option zD := (fn_X12_layAlike_2 zFU (0 : Int32) D)
theorem s_X12_layAlike_2 {X : zX} {Sh : zSh} {d : Nat} (hst : (zl X).stackTraces = false) (h0 : zSh0 Sh) (hd : 2 ≤ d)  : ∀ (n : Nat) (v1 : Int32) (D : zD) , Rn X m_X12_layAlike (d + 1) 2 [(0, .ref 102), (1, .int v1)] [] (Sh, D) ((oV Sh) (fn_X12_layAlike_2  n v1 D)) := by
  intro n
  induction n with
  | zero => intro v1 D; exact Rn_none rfl
  | succ n hk2 =>
    intro v1 D
    rw [fn_X12_layAlike_2]
    refine r_iload_n (pc := 2) 1 d_X12_layAlike_2 rfl rfl ?_
    refine r_aload_n (pc := 3) 0 d_X12_layAlike_3 rfl rfl ?_
    refine q_cP (f := (oV Sh)) (av := [.ref 102]) (st := [.int v1]) (z_runV ck_X12_allCells rfl ml_X12_269 ci_X12_allCells cv_X12_allCells (K_102 h0) (ci := 12) rfl rfl (Nat.le_of_ble_eq_true rfl) d_X12_layAlike_4) (s_X12_allCells hst h0 (by omega)) kp_V (fun x1 _ => ?_)
    refine r_icmp_gt (f := (oV Sh)) (pc := 7) 37 d_X12_layAlike_7 (by decide) (fun c2 => ?_) (fun c2 => ?_)
    · exact r_vret (pc := 37) rfl d_X12_layAlike_37
    · refine r_aload_n (pc := 10) 0 d_X12_layAlike_10 rfl rfl ?_
      refine r_getR (pc := 11) g_X12_97 (K_102 h0) rfl (R_102_51 h0) d_X12_layAlike_11 ?_
      refine r_iload_n (pc := 14) 1 d_X12_layAlike_14 rfl rfl ?_
      refine r_aload_n (pc := 15) 0 d_X12_layAlike_15 rfl rfl ?_
      refine r_iload_n (pc := 16) 1 d_X12_layAlike_16 rfl rfl ?_
      refine r_iconst (pc := 17) (0 : Int32) d_X12_layAlike_17 rfl ?_
      refine q_cP (f := (oV Sh)) (av := [.ref 102, .int v1, .int (0 : Int32)]) (st := [.int v1, .ref 201]) (z_runV ck_X12_firstCover rfl ml_X12_302 ci_X12_firstCover cv_X12_firstCover (K_102 h0) (ci := 12) rfl rfl (Nat.le_of_ble_eq_true rfl) d_X12_layAlike_18) (s_X12_firstCover hst h0 (by omega)) kp_V (fun x3 _ => ?_)
      refine r_iconst (pc := 21) (-1 : Int32) d_X12_layAlike_21 rfl ?_
      refine r_icmp_eq (f := (oV Sh)) (pc := 22) 29 d_X12_layAlike_22 (by decide) (fun c4 => ?_) (fun c4 => ?_)
      · refine r_iconst (pc := 29) (0 : Int32) d_X12_layAlike_29 rfl ?_
        refine r_ck (f := (oV Sh)) rfl (fun hc5 => ?_)
        refine q_zast (pc := 30) (j := v1.toNatClampNeg) (K_201 h0) hc5 rfl  (by decide) d_X12_layAlike_30 ?_
        refine r_letD (f := (oV Sh)) (fun D6 => ?_)
        refine r_iinc (pc := 31) ((v1 + (1 : Int32))) 1 (ls' := [(1, .int (v1 + (1 : Int32))), (0, .ref 102)]) d_X12_layAlike_31 rfl rfl (Nat.le_of_ble_eq_true rfl) rfl ?_
        refine r_goto (pc := 34) 2 d_X12_layAlike_34 (by decide) ?_
        refine r_pick [1, 0] (ls' := [(0, .ref 102), (1, .int (v1 + (1 : Int32)))]) rfl ?_
        exact hk2 (v1 + (1 : Int32)) D6 
      · refine r_iconst (pc := 25) (1 : Int32) d_X12_layAlike_25 rfl ?_
        refine r_goto (pc := 26) 30 d_X12_layAlike_26 (by decide) ?_
        refine r_ck (f := (oV Sh)) rfl (fun hc7 => ?_)
        refine q_zast (pc := 30) (j := v1.toNatClampNeg) (K_201 h0) hc7 rfl  (by decide) d_X12_layAlike_30 ?_
        refine r_letD (f := (oV Sh)) (fun D8 => ?_)
        refine r_iinc (pc := 31) ((v1 + (1 : Int32))) 1 (ls' := [(1, .int (v1 + (1 : Int32))), (0, .ref 102)]) d_X12_layAlike_31 rfl rfl (Nat.le_of_ble_eq_true rfl) rfl ?_
        refine r_goto (pc := 34) 2 d_X12_layAlike_34 (by decide) ?_
        refine r_pick [1, 0] (ls' := [(0, .ref 102), (1, .int (v1 + (1 : Int32)))]) rfl ?_
        exact hk2 (v1 + (1 : Int32)) D8 
theorem s_X12_layAlike {X : zX} {Sh : zSh} {d : Nat} (hst : (zl X).stackTraces = false) (h0 : zSh0 Sh) (hd : 3 ≤ d)  {D : zD} : Sd X m_X12_layAlike d [.ref 102] (Sh, D) ((oV Sh) (fn_X12_layAlike D)) := by
  obtain ⟨d, rfl⟩ : ∃ e, d = e + 1 := ⟨d - 1, by omega⟩
  replace hd : 2 ≤ d := by omega
  refine z_body ck_X12_layAlike rfl (Nat.le_of_ble_eq_true rfl) rfl hst ?_
  rw [fn_X12_layAlike]
  show Rn X m_X12_layAlike (d + 1) 0 [(0, .ref 102)] [] (Sh, D) _
  refine r_iconst (pc := 0) (0 : Int32) d_X12_layAlike_0 rfl ?_
  refine r_istore_n (pc := 1) (ls' := [(1, .int (0 : Int32)), (0, .ref 102)]) d_X12_layAlike_1 rfl (Nat.le_of_ble_eq_true rfl) rfl ?_
  refine r_pick [1, 0] (ls' := [(0, .ref 102), (1, .int (0 : Int32))]) rfl ?_
  exact s_X12_layAlike_2 hst h0 hd zFU  (0 : Int32) D
/-! CoveredSignsModel.lowest -/
theorem d_X12_lowest_0 : decode (yB m_X12_lowest) 0 = .ok (.iconst 0, 1) := by decide +kernel
theorem d_X12_lowest_1 : decode (yB m_X12_lowest) 1 = .ok (.istore_n 2, 1) := by decide +kernel
theorem d_X12_lowest_2 : decode (yB m_X12_lowest) 2 = .ok (.lload_n 0, 1) := by decide +kernel
theorem d_X12_lowest_3 : decode (yB m_X12_lowest) 3 = .ok (.iload_n 2, 1) := by decide +kernel
theorem d_X12_lowest_4 : decode (yB m_X12_lowest) 4 = .ok (.lushr, 1) := by decide +kernel
theorem d_X12_lowest_5 : decode (yB m_X12_lowest) 5 = .ok (.lconst 1, 1) := by decide +kernel
theorem d_X12_lowest_6 : decode (yB m_X12_lowest) 6 = .ok (.land, 1) := by decide +kernel
theorem d_X12_lowest_7 : decode (yB m_X12_lowest) 7 = .ok (.lconst 0, 1) := by decide +kernel
theorem d_X12_lowest_8 : decode (yB m_X12_lowest) 8 = .ok (.lcmp, 1) := by decide +kernel
theorem d_X12_lowest_9 : decode (yB m_X12_lowest) 9 = .ok (.ifCond .ne 9, 3) := by decide +kernel
theorem d_X12_lowest_12 : decode (yB m_X12_lowest) 12 = .ok (.iinc 2 1, 3) := by decide +kernel
theorem d_X12_lowest_15 : decode (yB m_X12_lowest) 15 = .ok (.goto (-13), 3) := by decide +kernel
theorem d_X12_lowest_18 : decode (yB m_X12_lowest) 18 = .ok (.iload_n 2, 1) := by decide +kernel
theorem d_X12_lowest_19 : decode (yB m_X12_lowest) 19 = .ok (.ireturn, 1) := by decide +kernel
def fn_X12_lowest_2 (v0 : Int64) : Nat → Int32 → Option Int32
  | 0, _ => none
  | n + 1, v2 => (if (lg_cmp ((zlushr v0 v2) &&& (1 : Int64)) (0 : Int64)) = 0 then (((fn_X12_lowest_2 v0 n) (v2 + (1 : Int32)))) else ((some v2)))
def fn_X12_lowest (v0 : Int64) : Option Int32 := (fn_X12_lowest_2 v0 zFU (0 : Int32))
theorem s_X12_lowest_2 {X : zX} {Sh : zSh} {d : Nat} (hst : (zl X).stackTraces = false) (h0 : zSh0 Sh) (hd : 0 ≤ d) {v0 : Int64} (D : zD) : ∀ (n : Nat) (v2 : Int32) , Rn X m_X12_lowest (d + 1) 2 [(0, .long v0), (2, .int v2)] [] (Sh, D) ((oP Sh D) (fn_X12_lowest_2 v0 n v2)) := by
  intro n
  induction n with
  | zero => intro v2; exact Rn_none rfl
  | succ n hk2 =>
    intro v2
    rw [fn_X12_lowest_2]
    refine r_lload_n (pc := 2) 0 d_X12_lowest_2 rfl rfl ?_
    refine r_iload_n (pc := 3) 1 d_X12_lowest_3 rfl rfl ?_
    refine r_lushr (pc := 4) d_X12_lowest_4 ?_
    refine r_lconst (pc := 5) (1 : Int64) d_X12_lowest_5 rfl ?_
    refine r_land (pc := 6) d_X12_lowest_6 ?_
    refine r_lconst (pc := 7) (0 : Int64) d_X12_lowest_7 rfl ?_
    refine r_lcmp (pc := 8) d_X12_lowest_8 ?_
    refine r_if_ne (f := (oP Sh D)) (pc := 9) 18 d_X12_lowest_9 (by decide) (fun c1 => ?_) (fun c1 => ?_)
    · refine r_iload_n (pc := 18) 1 d_X12_lowest_18 rfl rfl ?_
      exact r_iret (pc := 19) rfl d_X12_lowest_19
    · refine r_iinc (pc := 12) ((v2 + (1 : Int32))) 1 (ls' := [(2, .int (v2 + (1 : Int32))), (0, .long v0)]) d_X12_lowest_12 rfl rfl (Nat.le_of_ble_eq_true rfl) rfl ?_
      refine r_goto (pc := 15) 2 d_X12_lowest_15 (by decide) ?_
      refine r_pick [1, 0] (ls' := [(0, .long v0), (2, .int (v2 + (1 : Int32)))]) rfl ?_
      exact hk2 (v2 + (1 : Int32)) 
theorem s_X12_lowest {X : zX} {Sh : zSh} {d : Nat} (hst : (zl X).stackTraces = false) (h0 : zSh0 Sh) (hd : 1 ≤ d) {v0 : Int64} {D : zD} : Sd X m_X12_lowest d [.long v0] (Sh, D) ((oP Sh D) (fn_X12_lowest v0)) := by
  obtain ⟨d, rfl⟩ : ∃ e, d = e + 1 := ⟨d - 1, by omega⟩
  replace hd : 0 ≤ d := by omega
  refine z_body ck_X12_lowest rfl (Nat.le_of_ble_eq_true rfl) rfl hst ?_
  rw [fn_X12_lowest]
  show Rn X m_X12_lowest (d + 1) 0 [(0, .long v0)] [] (Sh, D) _
  refine r_iconst (pc := 0) (0 : Int32) d_X12_lowest_0 rfl ?_
  refine r_istore_n (pc := 1) (ls' := [(2, .int (0 : Int32)), (0, .long v0)]) d_X12_lowest_1 rfl (Nat.le_of_ble_eq_true rfl) rfl ?_
  refine r_pick [1, 0] (ls' := [(0, .long v0), (2, .int (0 : Int32))]) rfl ?_
  exact s_X12_lowest_2 hst h0 hd D zFU  (0 : Int32)
/-! CoveredSignsModel.onesOf -/
theorem d_X12_onesOf_0 : decode (yB m_X12_onesOf) 0 = .ok (.lload_n 0, 1) := by decide +kernel
theorem d_X12_onesOf_1 : decode (yB m_X12_onesOf) 1 = .ok (.l2i, 1) := by decide +kernel
theorem d_X12_onesOf_2 : decode (yB m_X12_onesOf) 2 = .ok (.invokestatic 293, 3) := by decide +kernel
theorem d_X12_onesOf_5 : decode (yB m_X12_onesOf) 5 = .ok (.lload_n 0, 1) := by decide +kernel
theorem d_X12_onesOf_6 : decode (yB m_X12_onesOf) 6 = .ok (.bipush 32, 2) := by decide +kernel
theorem d_X12_onesOf_8 : decode (yB m_X12_onesOf) 8 = .ok (.lushr, 1) := by decide +kernel
theorem d_X12_onesOf_9 : decode (yB m_X12_onesOf) 9 = .ok (.l2i, 1) := by decide +kernel
theorem d_X12_onesOf_10 : decode (yB m_X12_onesOf) 10 = .ok (.invokestatic 293, 3) := by decide +kernel
theorem d_X12_onesOf_13 : decode (yB m_X12_onesOf) 13 = .ok (.iadd, 1) := by decide +kernel
theorem d_X12_onesOf_14 : decode (yB m_X12_onesOf) 14 = .ok (.ireturn, 1) := by decide +kernel
def fn_X12_onesOf (v0 : Int64) : Option Int32 := (fn_X12_ones (v0).toInt32).bind fun x1 => (fn_X12_ones ((zlushr v0 (32 : Int32))).toInt32).bind fun x2 => (some (x1 + x2))
theorem s_X12_onesOf {X : zX} {Sh : zSh} {d : Nat} (hst : (zl X).stackTraces = false) (h0 : zSh0 Sh) (hd : 2 ≤ d) {v0 : Int64} {D : zD} : Sd X m_X12_onesOf d [.long v0] (Sh, D) ((oP Sh D) (fn_X12_onesOf v0)) := by
  obtain ⟨d, rfl⟩ : ∃ e, d = e + 1 := ⟨d - 1, by omega⟩
  replace hd : 1 ≤ d := by omega
  refine z_body ck_X12_onesOf rfl (Nat.le_of_ble_eq_true rfl) rfl hst ?_
  rw [fn_X12_onesOf]
  show Rn X m_X12_onesOf (d + 1) 0 [(0, .long v0)] [] (Sh, D) _
  refine r_lload_n (pc := 0) 0 d_X12_onesOf_0 rfl rfl ?_
  refine r_l2i (pc := 1) d_X12_onesOf_1 ?_
  refine q_cP (f := (oP Sh D)) (av := [.int (v0).toInt32]) (st := []) (z_runS ck_X12_ones rfl ml_X12_293 cs_X12_ones rfl (Nat.le_of_ble_eq_true rfl) d_X12_onesOf_2) (s_X12_ones hst h0 (by omega)) kp_P (fun x1 _ => ?_)
  refine r_lload_n (pc := 5) 0 d_X12_onesOf_5 rfl rfl ?_
  refine r_bipush (pc := 6) (32 : Int32) d_X12_onesOf_6 rfl ?_
  refine r_lushr (pc := 8) d_X12_onesOf_8 ?_
  refine r_l2i (pc := 9) d_X12_onesOf_9 ?_
  refine q_cP (f := (oP Sh D)) (av := [.int ((zlushr v0 (32 : Int32))).toInt32]) (st := [.int x1]) (z_runS ck_X12_ones rfl ml_X12_293 cs_X12_ones rfl (Nat.le_of_ble_eq_true rfl) d_X12_onesOf_10) (s_X12_ones hst h0 (by omega)) kp_P (fun x2 _ => ?_)
  refine r_iadd (pc := 13) d_X12_onesOf_13 ?_
  exact r_iret (pc := 14) rfl d_X12_onesOf_14
/-! CoveredSignsModel.grows -/
theorem d_X12_grows_0 : decode (yB m_X12_grows) 0 = .ok (.iload_n 3, 1) := by decide +kernel
theorem d_X12_grows_1 : decode (yB m_X12_grows) 1 = .ok (.aload_n 0, 1) := by decide +kernel
theorem d_X12_grows_2 : decode (yB m_X12_grows) 2 = .ok (.getfield 363, 3) := by decide +kernel
theorem d_X12_grows_5 : decode (yB m_X12_grows) 5 = .ok (.if_icmp .le 8, 3) := by decide +kernel
theorem d_X12_grows_8 : decode (yB m_X12_grows) 8 = .ok (.aload_n 0, 1) := by decide +kernel
theorem d_X12_grows_9 : decode (yB m_X12_grows) 9 = .ok (.iload_n 3, 1) := by decide +kernel
theorem d_X12_grows_10 : decode (yB m_X12_grows) 10 = .ok (.putfield 363, 3) := by decide +kernel
theorem d_X12_grows_13 : decode (yB m_X12_grows) 13 = .ok (.lload_n 1, 1) := by decide +kernel
theorem d_X12_grows_14 : decode (yB m_X12_grows) 14 = .ok (.lstore 4, 2) := by decide +kernel
theorem d_X12_grows_16 : decode (yB m_X12_grows) 16 = .ok (.lconst 0, 1) := by decide +kernel
theorem d_X12_grows_17 : decode (yB m_X12_grows) 17 = .ok (.lstore 6, 2) := by decide +kernel
theorem d_X12_grows_19 : decode (yB m_X12_grows) 19 = .ok (.iconst 0, 1) := by decide +kernel
theorem d_X12_grows_20 : decode (yB m_X12_grows) 20 = .ok (.istore 8, 2) := by decide +kernel
theorem d_X12_grows_22 : decode (yB m_X12_grows) 22 = .ok (.lload 4, 2) := by decide +kernel
theorem d_X12_grows_24 : decode (yB m_X12_grows) 24 = .ok (.lconst 0, 1) := by decide +kernel
theorem d_X12_grows_25 : decode (yB m_X12_grows) 25 = .ok (.lcmp, 1) := by decide +kernel
theorem d_X12_grows_26 : decode (yB m_X12_grows) 26 = .ok (.ifCond .eq 88, 3) := by decide +kernel
theorem d_X12_grows_29 : decode (yB m_X12_grows) 29 = .ok (.lload 4, 2) := by decide +kernel
theorem d_X12_grows_31 : decode (yB m_X12_grows) 31 = .ok (.lstore 9, 2) := by decide +kernel
theorem d_X12_grows_33 : decode (yB m_X12_grows) 33 = .ok (.iinc 8 1, 3) := by decide +kernel
theorem d_X12_grows_36 : decode (yB m_X12_grows) 36 = .ok (.lload 9, 2) := by decide +kernel
theorem d_X12_grows_38 : decode (yB m_X12_grows) 38 = .ok (.lconst 0, 1) := by decide +kernel
theorem d_X12_grows_39 : decode (yB m_X12_grows) 39 = .ok (.lcmp, 1) := by decide +kernel
theorem d_X12_grows_40 : decode (yB m_X12_grows) 40 = .ok (.ifCond .eq 71, 3) := by decide +kernel
theorem d_X12_grows_43 : decode (yB m_X12_grows) 43 = .ok (.lload 9, 2) := by decide +kernel
theorem d_X12_grows_45 : decode (yB m_X12_grows) 45 = .ok (.invokestatic 370, 3) := by decide +kernel
theorem d_X12_grows_48 : decode (yB m_X12_grows) 48 = .ok (.istore 11, 2) := by decide +kernel
theorem d_X12_grows_50 : decode (yB m_X12_grows) 50 = .ok (.lload 4, 2) := by decide +kernel
theorem d_X12_grows_52 : decode (yB m_X12_grows) 52 = .ok (.lconst 1, 1) := by decide +kernel
theorem d_X12_grows_53 : decode (yB m_X12_grows) 53 = .ok (.iload 11, 2) := by decide +kernel
theorem d_X12_grows_55 : decode (yB m_X12_grows) 55 = .ok (.lshl, 1) := by decide +kernel
theorem d_X12_grows_56 : decode (yB m_X12_grows) 56 = .ok (.ldc2_w 374, 3) := by decide +kernel
theorem d_X12_grows_59 : decode (yB m_X12_grows) 59 = .ok (.lxor, 1) := by decide +kernel
theorem d_X12_grows_60 : decode (yB m_X12_grows) 60 = .ok (.land, 1) := by decide +kernel
theorem d_X12_grows_61 : decode (yB m_X12_grows) 61 = .ok (.lstore 4, 2) := by decide +kernel
theorem d_X12_grows_63 : decode (yB m_X12_grows) 63 = .ok (.lload 9, 2) := by decide +kernel
theorem d_X12_grows_65 : decode (yB m_X12_grows) 65 = .ok (.lconst 1, 1) := by decide +kernel
theorem d_X12_grows_66 : decode (yB m_X12_grows) 66 = .ok (.iload 11, 2) := by decide +kernel
theorem d_X12_grows_68 : decode (yB m_X12_grows) 68 = .ok (.lshl, 1) := by decide +kernel
theorem d_X12_grows_69 : decode (yB m_X12_grows) 69 = .ok (.ldc2_w 374, 3) := by decide +kernel
theorem d_X12_grows_72 : decode (yB m_X12_grows) 72 = .ok (.lxor, 1) := by decide +kernel
theorem d_X12_grows_73 : decode (yB m_X12_grows) 73 = .ok (.aload_n 0, 1) := by decide +kernel
theorem d_X12_grows_74 : decode (yB m_X12_grows) 74 = .ok (.getfield 100, 3) := by decide +kernel
theorem d_X12_grows_77 : decode (yB m_X12_grows) 77 = .ok (.iload 11, 2) := by decide +kernel
theorem d_X12_grows_79 : decode (yB m_X12_grows) 79 = .ok (.laload, 1) := by decide +kernel
theorem d_X12_grows_80 : decode (yB m_X12_grows) 80 = .ok (.ldc2_w 374, 3) := by decide +kernel
theorem d_X12_grows_83 : decode (yB m_X12_grows) 83 = .ok (.lxor, 1) := by decide +kernel
theorem d_X12_grows_84 : decode (yB m_X12_grows) 84 = .ok (.land, 1) := by decide +kernel
theorem d_X12_grows_85 : decode (yB m_X12_grows) 85 = .ok (.land, 1) := by decide +kernel
theorem d_X12_grows_86 : decode (yB m_X12_grows) 86 = .ok (.lstore 9, 2) := by decide +kernel
theorem d_X12_grows_88 : decode (yB m_X12_grows) 88 = .ok (.iload_n 3, 1) := by decide +kernel
theorem d_X12_grows_89 : decode (yB m_X12_grows) 89 = .ok (.iload 8, 2) := by decide +kernel
theorem d_X12_grows_91 : decode (yB m_X12_grows) 91 = .ok (.iadd, 1) := by decide +kernel
theorem d_X12_grows_92 : decode (yB m_X12_grows) 92 = .ok (.aload_n 0, 1) := by decide +kernel
theorem d_X12_grows_93 : decode (yB m_X12_grows) 93 = .ok (.getfield 363, 3) := by decide +kernel
theorem d_X12_grows_96 : decode (yB m_X12_grows) 96 = .ok (.if_icmp .le 12, 3) := by decide +kernel
theorem d_X12_grows_99 : decode (yB m_X12_grows) 99 = .ok (.lload 6, 2) := by decide +kernel
theorem d_X12_grows_101 : decode (yB m_X12_grows) 101 = .ok (.lconst 1, 1) := by decide +kernel
theorem d_X12_grows_102 : decode (yB m_X12_grows) 102 = .ok (.iload 11, 2) := by decide +kernel
theorem d_X12_grows_104 : decode (yB m_X12_grows) 104 = .ok (.lshl, 1) := by decide +kernel
theorem d_X12_grows_105 : decode (yB m_X12_grows) 105 = .ok (.lor, 1) := by decide +kernel
theorem d_X12_grows_106 : decode (yB m_X12_grows) 106 = .ok (.lstore 6, 2) := by decide +kernel
theorem d_X12_grows_108 : decode (yB m_X12_grows) 108 = .ok (.goto (-72), 3) := by decide +kernel
theorem d_X12_grows_111 : decode (yB m_X12_grows) 111 = .ok (.goto (-89), 3) := by decide +kernel
theorem d_X12_grows_114 : decode (yB m_X12_grows) 114 = .ok (.lload_n 1, 1) := by decide +kernel
theorem d_X12_grows_115 : decode (yB m_X12_grows) 115 = .ok (.lstore 9, 2) := by decide +kernel
theorem d_X12_grows_117 : decode (yB m_X12_grows) 117 = .ok (.lload 6, 2) := by decide +kernel
theorem d_X12_grows_119 : decode (yB m_X12_grows) 119 = .ok (.lconst 0, 1) := by decide +kernel
theorem d_X12_grows_120 : decode (yB m_X12_grows) 120 = .ok (.lcmp, 1) := by decide +kernel
theorem d_X12_grows_121 : decode (yB m_X12_grows) 121 = .ok (.ifCond .eq 71, 3) := by decide +kernel
theorem d_X12_grows_124 : decode (yB m_X12_grows) 124 = .ok (.lload 6, 2) := by decide +kernel
theorem d_X12_grows_126 : decode (yB m_X12_grows) 126 = .ok (.invokestatic 370, 3) := by decide +kernel
theorem d_X12_grows_129 : decode (yB m_X12_grows) 129 = .ok (.istore 11, 2) := by decide +kernel
theorem d_X12_grows_131 : decode (yB m_X12_grows) 131 = .ok (.lload 6, 2) := by decide +kernel
theorem d_X12_grows_133 : decode (yB m_X12_grows) 133 = .ok (.lconst 1, 1) := by decide +kernel
theorem d_X12_grows_134 : decode (yB m_X12_grows) 134 = .ok (.iload 11, 2) := by decide +kernel
theorem d_X12_grows_136 : decode (yB m_X12_grows) 136 = .ok (.lshl, 1) := by decide +kernel
theorem d_X12_grows_137 : decode (yB m_X12_grows) 137 = .ok (.ldc2_w 374, 3) := by decide +kernel
theorem d_X12_grows_140 : decode (yB m_X12_grows) 140 = .ok (.lxor, 1) := by decide +kernel
theorem d_X12_grows_141 : decode (yB m_X12_grows) 141 = .ok (.land, 1) := by decide +kernel
theorem d_X12_grows_142 : decode (yB m_X12_grows) 142 = .ok (.lstore 6, 2) := by decide +kernel
theorem d_X12_grows_144 : decode (yB m_X12_grows) 144 = .ok (.iload_n 3, 1) := by decide +kernel
theorem d_X12_grows_145 : decode (yB m_X12_grows) 145 = .ok (.lload 9, 2) := by decide +kernel
theorem d_X12_grows_147 : decode (yB m_X12_grows) 147 = .ok (.invokestatic 376, 3) := by decide +kernel
theorem d_X12_grows_150 : decode (yB m_X12_grows) 150 = .ok (.iadd, 1) := by decide +kernel
theorem d_X12_grows_151 : decode (yB m_X12_grows) 151 = .ok (.aload_n 0, 1) := by decide +kernel
theorem d_X12_grows_152 : decode (yB m_X12_grows) 152 = .ok (.getfield 363, 3) := by decide +kernel
theorem d_X12_grows_155 : decode (yB m_X12_grows) 155 = .ok (.if_icmp .gt 4, 3) := by decide +kernel
theorem d_X12_grows_158 : decode (yB m_X12_grows) 158 = .ok (.return_, 1) := by decide +kernel
theorem d_X12_grows_159 : decode (yB m_X12_grows) 159 = .ok (.lload 9, 2) := by decide +kernel
theorem d_X12_grows_161 : decode (yB m_X12_grows) 161 = .ok (.lconst 1, 1) := by decide +kernel
theorem d_X12_grows_162 : decode (yB m_X12_grows) 162 = .ok (.iload 11, 2) := by decide +kernel
theorem d_X12_grows_164 : decode (yB m_X12_grows) 164 = .ok (.lshl, 1) := by decide +kernel
theorem d_X12_grows_165 : decode (yB m_X12_grows) 165 = .ok (.ldc2_w 374, 3) := by decide +kernel
theorem d_X12_grows_168 : decode (yB m_X12_grows) 168 = .ok (.lxor, 1) := by decide +kernel
theorem d_X12_grows_169 : decode (yB m_X12_grows) 169 = .ok (.land, 1) := by decide +kernel
theorem d_X12_grows_170 : decode (yB m_X12_grows) 170 = .ok (.lstore 9, 2) := by decide +kernel
theorem d_X12_grows_172 : decode (yB m_X12_grows) 172 = .ok (.aload_n 0, 1) := by decide +kernel
theorem d_X12_grows_173 : decode (yB m_X12_grows) 173 = .ok (.lload 9, 2) := by decide +kernel
theorem d_X12_grows_175 : decode (yB m_X12_grows) 175 = .ok (.aload_n 0, 1) := by decide +kernel
theorem d_X12_grows_176 : decode (yB m_X12_grows) 176 = .ok (.getfield 100, 3) := by decide +kernel
theorem d_X12_grows_179 : decode (yB m_X12_grows) 179 = .ok (.iload 11, 2) := by decide +kernel
theorem d_X12_grows_181 : decode (yB m_X12_grows) 181 = .ok (.laload, 1) := by decide +kernel
theorem d_X12_grows_182 : decode (yB m_X12_grows) 182 = .ok (.land, 1) := by decide +kernel
theorem d_X12_grows_183 : decode (yB m_X12_grows) 183 = .ok (.iload_n 3, 1) := by decide +kernel
theorem d_X12_grows_184 : decode (yB m_X12_grows) 184 = .ok (.iconst 1, 1) := by decide +kernel
theorem d_X12_grows_185 : decode (yB m_X12_grows) 185 = .ok (.iadd, 1) := by decide +kernel
theorem d_X12_grows_186 : decode (yB m_X12_grows) 186 = .ok (.invokevirtual 366, 3) := by decide +kernel
theorem d_X12_grows_189 : decode (yB m_X12_grows) 189 = .ok (.goto (-72), 3) := by decide +kernel
theorem d_X12_grows_192 : decode (yB m_X12_grows) 192 = .ok (.return_, 1) := by decide +kernel
def fn_X12_grows_117 (f_X12_grows : Int64 → Int32 → zD → Option zD) (v1 : Int64) (v3 : Int32) : Nat → Int64 → Int64 → zD → Option zD
  | 0, _, _, _ => none
  | n + 1, v6, v9, D => (if (lg_cmp v6 (0 : Int64)) = 0 then ((some D)) else ((fn_X12_lowest v6).bind fun x5 => zlet (v6 &&& ((zlshl (1 : Int64) x5) ^^^ (-1 : Int64))) fun x6 => (fn_X12_onesOf v9).bind fun x7 => (if (gI D 102 53) < (v3 + x7) then (zlet (v9 &&& ((zlshl (1 : Int64) x5) ^^^ (-1 : Int64))) fun x9 => zck x5 64 <| (f_X12_grows (x9 &&& (gL D 202 x5.toNatClampNeg)) (v3 + (1 : Int32)) D).bind fun D11 => ((fn_X12_grows_117 f_X12_grows v1 v3 n) x6 x9 D11)) else ((some D)))))
def fn_X12_grows_36 (f_X12_grows : Int64 → Int32 → zD → Option zD) (v1 : Int64) (v3 : Int32) (k22 : Int64 → Int64 → Int32 → zD → Option zD) : Nat → Int64 → Int64 → Int32 → Int64 → zD → Option zD
  | 0, _, _, _, _, _ => none
  | n + 1, v4, v6, v8, v9, D => (if (lg_cmp v9 (0 : Int64)) = 0 then ((k22 v4 v6 v8 D)) else ((fn_X12_lowest v9).bind fun x13 => zlet (v4 &&& ((zlshl (1 : Int64) x13) ^^^ (-1 : Int64))) fun x14 => zck x13 64 <| zlet (v9 &&& (((zlshl (1 : Int64) x13) ^^^ (-1 : Int64)) &&& ((gL D 202 x13.toNatClampNeg) ^^^ (-1 : Int64)))) fun x16 => (if (v3 + v8) ≤ (gI D 102 53) then (((fn_X12_grows_36 f_X12_grows v1 v3 k22 n) x14 v6 v8 x16 D)) else (zlet (v6 ||| (zlshl (1 : Int64) x13)) fun x18 => ((fn_X12_grows_36 f_X12_grows v1 v3 k22 n) x14 x18 v8 x16 D)))))
def fn_X12_grows_22 (f_X12_grows : Int64 → Int32 → zD → Option zD) (v1 : Int64) (v3 : Int32) : Nat → Int64 → Int64 → Int32 → zD → Option zD
  | 0, _, _, _, _ => none
  | n + 1, v4, v6, v8, D => (if (lg_cmp v4 (0 : Int64)) = 0 then ((fn_X12_grows_117 f_X12_grows v1 v3 zFU v6 v1 D)) else ((fn_X12_grows_36 f_X12_grows v1 v3 (fn_X12_grows_22 f_X12_grows v1 v3 n) zFU v4 v6 (v8 + (1 : Int32)) v4 D)))
def fn_X12_grows (f_X12_grows : Int64 → Int32 → zD → Option zD) (v1 : Int64) (v3 : Int32) (D : zD) : Option zD := (if v3 ≤ (gI D 102 53) then (zlet (0 : Int64) fun x2 => (fn_X12_grows_22 f_X12_grows v1 v3 zFU v1 x2 (0 : Int32) D)) else (zlet (sI D 102 53 v3) fun D19 => zlet (0 : Int64) fun x20 => (fn_X12_grows_22 f_X12_grows v1 v3 zFU v1 x20 (0 : Int32) D19)))
theorem s_X12_grows_117 {X : zX} {Sh : zSh} {d : Nat} (hst : (zl X).stackTraces = false) (h0 : zSh0 Sh) (hd : 2 ≤ d) {v1 : Int64} {v3 : Int32} (f_X12_grows : Int64 → Int32 → zD → Option zD) (hf_X12_grows : ∀ (v1 : Int64) (v3 : Int32) (D : zD), Sd X m_X12_grows d [.ref 102, .long v1, .int v3] (Sh, D) ((oV Sh) (f_X12_grows v1 v3 D))) : ∀ (n : Nat) (v6 : Int64) (v9 : Int64) (D : zD) , Rn X m_X12_grows (d + 1) 117 [(0, .ref 102), (3, .int v3), (6, .long v6), (9, .long v9)] [] (Sh, D) ((oV Sh) (fn_X12_grows_117 f_X12_grows v1 v3 n v6 v9 D)) := by
  intro n
  induction n with
  | zero => intro v6 v9 D; exact Rn_none rfl
  | succ n hk117 =>
    intro v6 v9 D
    rw [fn_X12_grows_117]
    refine r_lload (pc := 117) 2 d_X12_grows_117 rfl ?_
    refine r_lconst (pc := 119) (0 : Int64) d_X12_grows_119 rfl ?_
    refine r_lcmp (pc := 120) d_X12_grows_120 ?_
    refine r_if_eq (f := (oV Sh)) (pc := 121) 192 d_X12_grows_121 (by decide) (fun c4 => ?_) (fun c4 => ?_)
    · exact r_vret (pc := 192) rfl d_X12_grows_192
    · refine r_lload (pc := 124) 2 d_X12_grows_124 rfl ?_
      refine q_cP (f := (oV Sh)) (av := [.long v6]) (st := []) (z_runS ck_X12_lowest rfl ml_X12_370 cs_X12_lowest rfl (Nat.le_of_ble_eq_true rfl) d_X12_grows_126) (s_X12_lowest hst h0 (by omega)) kp_V (fun x5 _ => ?_)
      refine r_istore (pc := 129) (ls' := [(11, .int x5), (0, .ref 102), (3, .int v3), (6, .long v6), (9, .long v9)]) d_X12_grows_129 (Nat.le_of_ble_eq_true rfl) rfl ?_
      refine r_lload (pc := 131) 3 d_X12_grows_131 rfl ?_
      refine r_lconst (pc := 133) (1 : Int64) d_X12_grows_133 rfl ?_
      refine r_iload (pc := 134) 0 d_X12_grows_134 rfl ?_
      refine r_lshl (pc := 136) d_X12_grows_136 ?_
      refine r_ldc2 (pc := 137) d_X12_grows_137 cc_X12_374 ?_
      refine r_lxor (pc := 140) d_X12_grows_140 ?_
      refine r_land (pc := 141) d_X12_grows_141 ?_
      refine r_letj (f := (oV Sh)) (fun x6 => ?_)
      refine r_lstore (pc := 142) (ls' := [(6, .long x6), (11, .int x5), (0, .ref 102), (3, .int v3), (9, .long v9)]) d_X12_grows_142 (Nat.le_of_ble_eq_true rfl) rfl ?_
      refine r_iload_n (pc := 144) 3 d_X12_grows_144 rfl rfl ?_
      refine r_lload (pc := 145) 4 d_X12_grows_145 rfl ?_
      refine q_cP (f := (oV Sh)) (av := [.long v9]) (st := [.int v3]) (z_runS ck_X12_onesOf rfl ml_X12_376 cs_X12_onesOf rfl (Nat.le_of_ble_eq_true rfl) d_X12_grows_147) (s_X12_onesOf hst h0 (by omega)) kp_V (fun x7 _ => ?_)
      refine r_iadd (pc := 150) d_X12_grows_150 ?_
      refine r_aload_n (pc := 151) 2 d_X12_grows_151 rfl rfl ?_
      refine q_gI (pc := 152) g_X12_363 (K_102 h0) rfl d_X12_grows_152 ?_
      refine r_icmp_gt (f := (oV Sh)) (pc := 155) 159 d_X12_grows_155 (by decide) (fun c8 => ?_) (fun c8 => ?_)
      · refine r_lload (pc := 159) 4 d_X12_grows_159 rfl ?_
        refine r_lconst (pc := 161) (1 : Int64) d_X12_grows_161 rfl ?_
        refine r_iload (pc := 162) 1 d_X12_grows_162 rfl ?_
        refine r_lshl (pc := 164) d_X12_grows_164 ?_
        refine r_ldc2 (pc := 165) d_X12_grows_165 cc_X12_374 ?_
        refine r_lxor (pc := 168) d_X12_grows_168 ?_
        refine r_land (pc := 169) d_X12_grows_169 ?_
        refine r_letj (f := (oV Sh)) (fun x9 => ?_)
        refine r_lstore (pc := 170) (ls' := [(9, .long x9), (6, .long x6), (11, .int x5), (0, .ref 102), (3, .int v3)]) d_X12_grows_170 (Nat.le_of_ble_eq_true rfl) rfl ?_
        refine r_aload_n (pc := 172) 3 d_X12_grows_172 rfl rfl ?_
        refine r_lload (pc := 173) 0 d_X12_grows_173 rfl ?_
        refine r_aload_n (pc := 175) 3 d_X12_grows_175 rfl rfl ?_
        refine r_getR (pc := 176) g_X12_100 (K_102 h0) rfl (R_102_52 h0) d_X12_grows_176 ?_
        refine r_iload (pc := 179) 2 d_X12_grows_179 rfl ?_
        refine r_ck (f := (oV Sh)) rfl (fun hc10 => ?_)
        refine q_lald (pc := 181) (j := x5.toNatClampNeg) (K_202 h0) hc10 rfl d_X12_grows_181 ?_
        refine r_land (pc := 182) d_X12_grows_182 ?_
        refine r_iload_n (pc := 183) 4 d_X12_grows_183 rfl rfl ?_
        refine r_iconst (pc := 184) (1 : Int32) d_X12_grows_184 rfl ?_
        refine r_iadd (pc := 185) d_X12_grows_185 ?_
        refine q_cV (f := (oV Sh)) (av := [.ref 102, .long (x9 &&& (gL D 202 x5.toNatClampNeg)), .int (v3 + (1 : Int32))]) (st := []) (z_runV ck_X12_grows rfl ml_X12_366 ci_X12_grows cv_X12_grows (K_102 h0) (ci := 12) rfl rfl (Nat.le_of_ble_eq_true rfl) d_X12_grows_186) (hf_X12_grows (x9 &&& (gL D 202 x5.toNatClampNeg)) (v3 + (1 : Int32)) D) kp_V (fun D11 _ => ?_)
        refine r_goto (pc := 189) 117 d_X12_grows_189 (by decide) ?_
        refine r_pick [3, 4, 1, 0] (ls' := [(0, .ref 102), (3, .int v3), (6, .long x6), (9, .long x9)]) rfl ?_
        exact hk117 x6 x9 D11 
      · exact r_vret (pc := 158) rfl d_X12_grows_158
theorem s_X12_grows_36 {X : zX} {Sh : zSh} {d : Nat} (hst : (zl X).stackTraces = false) (h0 : zSh0 Sh) (hd : 2 ≤ d) {v1 : Int64} {v3 : Int32} (f_X12_grows : Int64 → Int32 → zD → Option zD) (hf_X12_grows : ∀ (v1 : Int64) (v3 : Int32) (D : zD), Sd X m_X12_grows d [.ref 102, .long v1, .int v3] (Sh, D) ((oV Sh) (f_X12_grows v1 v3 D))) (k22 : Int64 → Int64 → Int32 → zD → Option zD) (hk22 : ∀ (v4 : Int64) (v6 : Int64) (v8 : Int32) (D : zD) , Rn X m_X12_grows (d + 1) 22 [(0, .ref 102), (1, .long v1), (3, .int v3), (4, .long v4), (6, .long v6), (8, .int v8)] [] (Sh, D) ((oV Sh) (k22 v4 v6 v8 D))) : ∀ (n : Nat) (v4 : Int64) (v6 : Int64) (v8 : Int32) (v9 : Int64) (D : zD) , Rn X m_X12_grows (d + 1) 36 [(0, .ref 102), (1, .long v1), (3, .int v3), (4, .long v4), (6, .long v6), (8, .int v8), (9, .long v9)] [] (Sh, D) ((oV Sh) (fn_X12_grows_36 f_X12_grows v1 v3 k22 n v4 v6 v8 v9 D)) := by
  intro n
  induction n with
  | zero => intro v4 v6 v8 v9 D; exact Rn_none rfl
  | succ n hk36 =>
    intro v4 v6 v8 v9 D
    rw [fn_X12_grows_36]
    refine r_lload (pc := 36) 6 d_X12_grows_36 rfl ?_
    refine r_lconst (pc := 38) (0 : Int64) d_X12_grows_38 rfl ?_
    refine r_lcmp (pc := 39) d_X12_grows_39 ?_
    refine r_if_eq (f := (oV Sh)) (pc := 40) 111 d_X12_grows_40 (by decide) (fun c12 => ?_) (fun c12 => ?_)
    · refine r_goto (pc := 111) 22 d_X12_grows_111 (by decide) ?_
      refine r_pick [0, 1, 2, 3, 4, 5] (ls' := [(0, .ref 102), (1, .long v1), (3, .int v3), (4, .long v4), (6, .long v6), (8, .int v8)]) rfl ?_
      exact hk22 v4 v6 v8 D 
    · refine r_lload (pc := 43) 6 d_X12_grows_43 rfl ?_
      refine q_cP (f := (oV Sh)) (av := [.long v9]) (st := []) (z_runS ck_X12_lowest rfl ml_X12_370 cs_X12_lowest rfl (Nat.le_of_ble_eq_true rfl) d_X12_grows_45) (s_X12_lowest hst h0 (by omega)) kp_V (fun x13 _ => ?_)
      refine r_istore (pc := 48) (ls' := [(11, .int x13), (0, .ref 102), (1, .long v1), (3, .int v3), (4, .long v4), (6, .long v6), (8, .int v8), (9, .long v9)]) d_X12_grows_48 (Nat.le_of_ble_eq_true rfl) rfl ?_
      refine r_lload (pc := 50) 4 d_X12_grows_50 rfl ?_
      refine r_lconst (pc := 52) (1 : Int64) d_X12_grows_52 rfl ?_
      refine r_iload (pc := 53) 0 d_X12_grows_53 rfl ?_
      refine r_lshl (pc := 55) d_X12_grows_55 ?_
      refine r_ldc2 (pc := 56) d_X12_grows_56 cc_X12_374 ?_
      refine r_lxor (pc := 59) d_X12_grows_59 ?_
      refine r_land (pc := 60) d_X12_grows_60 ?_
      refine r_letj (f := (oV Sh)) (fun x14 => ?_)
      refine r_lstore (pc := 61) (ls' := [(4, .long x14), (11, .int x13), (0, .ref 102), (1, .long v1), (3, .int v3), (6, .long v6), (8, .int v8), (9, .long v9)]) d_X12_grows_61 (Nat.le_of_ble_eq_true rfl) rfl ?_
      refine r_lload (pc := 63) 7 d_X12_grows_63 rfl ?_
      refine r_lconst (pc := 65) (1 : Int64) d_X12_grows_65 rfl ?_
      refine r_iload (pc := 66) 1 d_X12_grows_66 rfl ?_
      refine r_lshl (pc := 68) d_X12_grows_68 ?_
      refine r_ldc2 (pc := 69) d_X12_grows_69 cc_X12_374 ?_
      refine r_lxor (pc := 72) d_X12_grows_72 ?_
      refine r_aload_n (pc := 73) 2 d_X12_grows_73 rfl rfl ?_
      refine r_getR (pc := 74) g_X12_100 (K_102 h0) rfl (R_102_52 h0) d_X12_grows_74 ?_
      refine r_iload (pc := 77) 1 d_X12_grows_77 rfl ?_
      refine r_ck (f := (oV Sh)) rfl (fun hc15 => ?_)
      refine q_lald (pc := 79) (j := x13.toNatClampNeg) (K_202 h0) hc15 rfl d_X12_grows_79 ?_
      refine r_ldc2 (pc := 80) d_X12_grows_80 cc_X12_374 ?_
      refine r_lxor (pc := 83) d_X12_grows_83 ?_
      refine r_land (pc := 84) d_X12_grows_84 ?_
      refine r_land (pc := 85) d_X12_grows_85 ?_
      refine r_letj (f := (oV Sh)) (fun x16 => ?_)
      refine r_lstore (pc := 86) (ls' := [(9, .long x16), (4, .long x14), (11, .int x13), (0, .ref 102), (1, .long v1), (3, .int v3), (6, .long v6), (8, .int v8)]) d_X12_grows_86 (Nat.le_of_ble_eq_true rfl) rfl ?_
      refine r_iload_n (pc := 88) 5 d_X12_grows_88 rfl rfl ?_
      refine r_iload (pc := 89) 7 d_X12_grows_89 rfl ?_
      refine r_iadd (pc := 91) d_X12_grows_91 ?_
      refine r_aload_n (pc := 92) 3 d_X12_grows_92 rfl rfl ?_
      refine q_gI (pc := 93) g_X12_363 (K_102 h0) rfl d_X12_grows_93 ?_
      refine r_icmp_le (f := (oV Sh)) (pc := 96) 108 d_X12_grows_96 (by decide) (fun c17 => ?_) (fun c17 => ?_)
      · refine r_goto (pc := 108) 36 d_X12_grows_108 (by decide) ?_
        refine r_pick [3, 4, 5, 1, 6, 7, 0] (ls' := [(0, .ref 102), (1, .long v1), (3, .int v3), (4, .long x14), (6, .long v6), (8, .int v8), (9, .long x16)]) rfl ?_
        exact hk36 x14 v6 v8 x16 D 
      · refine r_lload (pc := 99) 6 d_X12_grows_99 rfl ?_
        refine r_lconst (pc := 101) (1 : Int64) d_X12_grows_101 rfl ?_
        refine r_iload (pc := 102) 2 d_X12_grows_102 rfl ?_
        refine r_lshl (pc := 104) d_X12_grows_104 ?_
        refine r_lor (pc := 105) d_X12_grows_105 ?_
        refine r_letj (f := (oV Sh)) (fun x18 => ?_)
        refine r_lstore (pc := 106) (ls' := [(6, .long x18), (9, .long x16), (4, .long x14), (11, .int x13), (0, .ref 102), (1, .long v1), (3, .int v3), (8, .int v8)]) d_X12_grows_106 (Nat.le_of_ble_eq_true rfl) rfl ?_
        refine r_goto (pc := 108) 36 d_X12_grows_108 (by decide) ?_
        refine r_pick [4, 5, 6, 2, 0, 7, 1] (ls' := [(0, .ref 102), (1, .long v1), (3, .int v3), (4, .long x14), (6, .long x18), (8, .int v8), (9, .long x16)]) rfl ?_
        exact hk36 x14 x18 v8 x16 D 
theorem s_X12_grows_22 {X : zX} {Sh : zSh} {d : Nat} (hst : (zl X).stackTraces = false) (h0 : zSh0 Sh) (hd : 2 ≤ d) {v1 : Int64} {v3 : Int32} (f_X12_grows : Int64 → Int32 → zD → Option zD) (hf_X12_grows : ∀ (v1 : Int64) (v3 : Int32) (D : zD), Sd X m_X12_grows d [.ref 102, .long v1, .int v3] (Sh, D) ((oV Sh) (f_X12_grows v1 v3 D))) : ∀ (n : Nat) (v4 : Int64) (v6 : Int64) (v8 : Int32) (D : zD) , Rn X m_X12_grows (d + 1) 22 [(0, .ref 102), (1, .long v1), (3, .int v3), (4, .long v4), (6, .long v6), (8, .int v8)] [] (Sh, D) ((oV Sh) (fn_X12_grows_22 f_X12_grows v1 v3 n v4 v6 v8 D)) := by
  intro n
  induction n with
  | zero => intro v4 v6 v8 D; exact Rn_none rfl
  | succ n hk22 =>
    intro v4 v6 v8 D
    rw [fn_X12_grows_22]
    refine r_lload (pc := 22) 3 d_X12_grows_22 rfl ?_
    refine r_lconst (pc := 24) (0 : Int64) d_X12_grows_24 rfl ?_
    refine r_lcmp (pc := 25) d_X12_grows_25 ?_
    refine r_if_eq (f := (oV Sh)) (pc := 26) 114 d_X12_grows_26 (by decide) (fun c3 => ?_) (fun c3 => ?_)
    · refine r_lload_n (pc := 114) 1 d_X12_grows_114 rfl rfl ?_
      refine r_lstore (pc := 115) (ls' := [(9, .long v1), (0, .ref 102), (1, .long v1), (3, .int v3), (4, .long v4), (6, .long v6), (8, .int v8)]) d_X12_grows_115 (Nat.le_of_ble_eq_true rfl) rfl ?_
      refine r_pick [1, 3, 5, 0] (ls' := [(0, .ref 102), (3, .int v3), (6, .long v6), (9, .long v1)]) rfl ?_
      exact s_X12_grows_117 hst h0 hd f_X12_grows hf_X12_grows zFU  v6 v1 D
    · refine r_lload (pc := 29) 3 d_X12_grows_29 rfl ?_
      refine r_lstore (pc := 31) (ls' := [(9, .long v4), (0, .ref 102), (1, .long v1), (3, .int v3), (4, .long v4), (6, .long v6), (8, .int v8)]) d_X12_grows_31 (Nat.le_of_ble_eq_true rfl) rfl ?_
      refine r_iinc (pc := 33) ((v8 + (1 : Int32))) 6 (ls' := [(8, .int (v8 + (1 : Int32))), (9, .long v4), (0, .ref 102), (1, .long v1), (3, .int v3), (4, .long v4), (6, .long v6)]) d_X12_grows_33 rfl rfl (Nat.le_of_ble_eq_true rfl) rfl ?_
      refine r_pick [2, 3, 4, 5, 6, 0, 1] (ls' := [(0, .ref 102), (1, .long v1), (3, .int v3), (4, .long v4), (6, .long v6), (8, .int (v8 + (1 : Int32))), (9, .long v4)]) rfl ?_
      exact s_X12_grows_36 hst h0 hd f_X12_grows hf_X12_grows (fn_X12_grows_22 f_X12_grows v1 v3 n) hk22 zFU  v4 v6 (v8 + (1 : Int32)) v4 D
theorem b_X12_grows {X : zX} {Sh : zSh} {d : Nat} (hst : (zl X).stackTraces = false) (h0 : zSh0 Sh) (hd : 2 ≤ d) {v1 : Int64} {v3 : Int32} (f_X12_grows : Int64 → Int32 → zD → Option zD) (hf_X12_grows : ∀ (v1 : Int64) (v3 : Int32) (D : zD), Sd X m_X12_grows d [.ref 102, .long v1, .int v3] (Sh, D) ((oV Sh) (f_X12_grows v1 v3 D))) {D : zD} : Sd X m_X12_grows (d + 1) [.ref 102, .long v1, .int v3] (Sh, D) ((oV Sh) (fn_X12_grows f_X12_grows v1 v3 D)) := by
  refine z_body ck_X12_grows rfl (Nat.le_of_ble_eq_true rfl) rfl hst ?_
  rw [fn_X12_grows]
  show Rn X m_X12_grows (d + 1) 0 [(0, .ref 102), (1, .long v1), (3, .int v3)] [] (Sh, D) _
  refine r_iload_n (pc := 0) 2 d_X12_grows_0 rfl rfl ?_
  refine r_aload_n (pc := 1) 0 d_X12_grows_1 rfl rfl ?_
  refine q_gI (pc := 2) g_X12_363 (K_102 h0) rfl d_X12_grows_2 ?_
  refine r_icmp_le (f := (oV Sh)) (pc := 5) 13 d_X12_grows_5 (by decide) (fun c1 => ?_) (fun c1 => ?_)
  · refine r_lload_n (pc := 13) 1 d_X12_grows_13 rfl rfl ?_
    refine r_lstore (pc := 14) (ls' := [(4, .long v1), (0, .ref 102), (1, .long v1), (3, .int v3)]) d_X12_grows_14 (Nat.le_of_ble_eq_true rfl) rfl ?_
    refine r_lconst (pc := 16) (0 : Int64) d_X12_grows_16 rfl ?_
    refine r_letj (f := (oV Sh)) (fun x2 => ?_)
    refine r_lstore (pc := 17) (ls' := [(6, .long x2), (4, .long v1), (0, .ref 102), (1, .long v1), (3, .int v3)]) d_X12_grows_17 (Nat.le_of_ble_eq_true rfl) rfl ?_
    refine r_iconst (pc := 19) (0 : Int32) d_X12_grows_19 rfl ?_
    refine r_istore (pc := 20) (ls' := [(8, .int (0 : Int32)), (6, .long x2), (4, .long v1), (0, .ref 102), (1, .long v1), (3, .int v3)]) d_X12_grows_20 (Nat.le_of_ble_eq_true rfl) rfl ?_
    refine r_pick [3, 4, 5, 2, 1, 0] (ls' := [(0, .ref 102), (1, .long v1), (3, .int v3), (4, .long v1), (6, .long x2), (8, .int (0 : Int32))]) rfl ?_
    exact s_X12_grows_22 hst h0 hd f_X12_grows hf_X12_grows zFU  v1 x2 (0 : Int32) D
  · refine r_aload_n (pc := 8) 0 d_X12_grows_8 rfl rfl ?_
    refine r_iload_n (pc := 9) 2 d_X12_grows_9 rfl rfl ?_
    refine r_putI (pc := 10) p_X12_363 (K_102 h0) rfl (Or.inl rfl) d_X12_grows_10 ?_
    refine r_letD (f := (oV Sh)) (fun D19 => ?_)
    refine r_lload_n (pc := 13) 1 d_X12_grows_13 rfl rfl ?_
    refine r_lstore (pc := 14) (ls' := [(4, .long v1), (0, .ref 102), (1, .long v1), (3, .int v3)]) d_X12_grows_14 (Nat.le_of_ble_eq_true rfl) rfl ?_
    refine r_lconst (pc := 16) (0 : Int64) d_X12_grows_16 rfl ?_
    refine r_letj (f := (oV Sh)) (fun x20 => ?_)
    refine r_lstore (pc := 17) (ls' := [(6, .long x20), (4, .long v1), (0, .ref 102), (1, .long v1), (3, .int v3)]) d_X12_grows_17 (Nat.le_of_ble_eq_true rfl) rfl ?_
    refine r_iconst (pc := 19) (0 : Int32) d_X12_grows_19 rfl ?_
    refine r_istore (pc := 20) (ls' := [(8, .int (0 : Int32)), (6, .long x20), (4, .long v1), (0, .ref 102), (1, .long v1), (3, .int v3)]) d_X12_grows_20 (Nat.le_of_ble_eq_true rfl) rfl ?_
    refine r_pick [3, 4, 5, 2, 1, 0] (ls' := [(0, .ref 102), (1, .long v1), (3, .int v3), (4, .long v1), (6, .long x20), (8, .int (0 : Int32))]) rfl ?_
    exact s_X12_grows_22 hst h0 hd f_X12_grows hf_X12_grows zFU  v1 x20 (0 : Int32) D19
def fn_X12_growsR : Nat → Int64 → Int32 → zD → Option zD
  | 0, _, _, _ => none
  | n + 1, v1, v3, D => fn_X12_grows (fn_X12_growsR n) v1 v3 D
theorem s_X12_growsR {X : zX} {Sh : zSh} (hst : (zl X).stackTraces = false) (h0 : zSh0 Sh) : ∀ (n d : Nat) (hd : n * 1 + 2 ≤ d) (v1 : Int64) (v3 : Int32) (D : zD) , Sd X m_X12_grows d [.ref 102, .long v1, .int v3] (Sh, D) ((oV Sh) (fn_X12_growsR n v1 v3 D))
  | 0, d, _, _, _, _ => fun o M' h => by cases h
  | n + 1, d, hd, v1, v3, D => by
    obtain ⟨d, rfl⟩ : ∃ e, d = e + 1 := ⟨d - 1, by omega⟩
    exact b_X12_grows hst h0 (by omega) (fn_X12_growsR n) (fun v1 v3 D  => s_X12_growsR hst h0 n d (by omega) v1 v3 D ) 
def fn_X12_growsT (v1 : Int64) (v3 : Int32) (D : zD) : Option zD := fn_X12_growsR 100 v1 v3 D
theorem s_X12_growsT {X : zX} {Sh : zSh} {d : Nat} (hst : (zl X).stackTraces = false) (h0 : zSh0 Sh) (hd : 102 ≤ d) {v1 : Int64} {v3 : Int32}  {D : zD} : Sd X m_X12_grows d [.ref 102, .long v1, .int v3] (Sh, D) ((oV Sh) (fn_X12_growsT v1 v3 D)) := s_X12_growsR hst h0 100 d (by omega) v1 v3 D 
/-! CoveredSignsModel.most -/
theorem d_X12_most_0 : decode (yB m_X12_most) 0 = .ok (.aload_n 0, 1) := by decide +kernel
theorem d_X12_most_1 : decode (yB m_X12_most) 1 = .ok (.iconst 0, 1) := by decide +kernel
theorem d_X12_most_2 : decode (yB m_X12_most) 2 = .ok (.putfield 113, 3) := by decide +kernel
theorem d_X12_most_5 : decode (yB m_X12_most) 5 = .ok (.aload_n 0, 1) := by decide +kernel
theorem d_X12_most_6 : decode (yB m_X12_most) 6 = .ok (.invokevirtual 242, 3) := by decide +kernel
theorem d_X12_most_9 : decode (yB m_X12_most) 9 = .ok (.bipush 6, 2) := by decide +kernel
theorem d_X12_most_11 : decode (yB m_X12_most) 11 = .ok (.if_icmp .le 5, 3) := by decide +kernel
theorem d_X12_most_14 : decode (yB m_X12_most) 14 = .ok (.iconst (-1), 1) := by decide +kernel
theorem d_X12_most_15 : decode (yB m_X12_most) 15 = .ok (.ireturn, 1) := by decide +kernel
theorem d_X12_most_16 : decode (yB m_X12_most) 16 = .ok (.aload_n 0, 1) := by decide +kernel
theorem d_X12_most_17 : decode (yB m_X12_most) 17 = .ok (.invokevirtual 360, 3) := by decide +kernel
theorem d_X12_most_20 : decode (yB m_X12_most) 20 = .ok (.iconst 0, 1) := by decide +kernel
theorem d_X12_most_21 : decode (yB m_X12_most) 21 = .ok (.istore_n 1, 1) := by decide +kernel
theorem d_X12_most_22 : decode (yB m_X12_most) 22 = .ok (.iload_n 1, 1) := by decide +kernel
theorem d_X12_most_23 : decode (yB m_X12_most) 23 = .ok (.aload_n 0, 1) := by decide +kernel
theorem d_X12_most_24 : decode (yB m_X12_most) 24 = .ok (.invokevirtual 269, 3) := by decide +kernel
theorem d_X12_most_27 : decode (yB m_X12_most) 27 = .ok (.if_icmp .gt 55, 3) := by decide +kernel
theorem d_X12_most_30 : decode (yB m_X12_most) 30 = .ok (.aload_n 0, 1) := by decide +kernel
theorem d_X12_most_31 : decode (yB m_X12_most) 31 = .ok (.getfield 100, 3) := by decide +kernel
theorem d_X12_most_34 : decode (yB m_X12_most) 34 = .ok (.iload_n 1, 1) := by decide +kernel
theorem d_X12_most_35 : decode (yB m_X12_most) 35 = .ok (.lconst 0, 1) := by decide +kernel
theorem d_X12_most_36 : decode (yB m_X12_most) 36 = .ok (.lastore, 1) := by decide +kernel
theorem d_X12_most_37 : decode (yB m_X12_most) 37 = .ok (.iconst 0, 1) := by decide +kernel
theorem d_X12_most_38 : decode (yB m_X12_most) 38 = .ok (.istore_n 2, 1) := by decide +kernel
theorem d_X12_most_39 : decode (yB m_X12_most) 39 = .ok (.iload_n 2, 1) := by decide +kernel
theorem d_X12_most_40 : decode (yB m_X12_most) 40 = .ok (.aload_n 0, 1) := by decide +kernel
theorem d_X12_most_41 : decode (yB m_X12_most) 41 = .ok (.invokevirtual 269, 3) := by decide +kernel
theorem d_X12_most_44 : decode (yB m_X12_most) 44 = .ok (.if_icmp .gt 32, 3) := by decide +kernel
theorem d_X12_most_47 : decode (yB m_X12_most) 47 = .ok (.aload_n 0, 1) := by decide +kernel
theorem d_X12_most_48 : decode (yB m_X12_most) 48 = .ok (.getfield 97, 3) := by decide +kernel
theorem d_X12_most_51 : decode (yB m_X12_most) 51 = .ok (.iload_n 1, 1) := by decide +kernel
theorem d_X12_most_52 : decode (yB m_X12_most) 52 = .ok (.iload_n 2, 1) := by decide +kernel
theorem d_X12_most_53 : decode (yB m_X12_most) 53 = .ok (.ixor, 1) := by decide +kernel
theorem d_X12_most_54 : decode (yB m_X12_most) 54 = .ok (.baload, 1) := by decide +kernel
theorem d_X12_most_55 : decode (yB m_X12_most) 55 = .ok (.ifCond .ne 15, 3) := by decide +kernel
theorem d_X12_most_58 : decode (yB m_X12_most) 58 = .ok (.aload_n 0, 1) := by decide +kernel
theorem d_X12_most_59 : decode (yB m_X12_most) 59 = .ok (.getfield 100, 3) := by decide +kernel
theorem d_X12_most_62 : decode (yB m_X12_most) 62 = .ok (.iload_n 1, 1) := by decide +kernel
theorem d_X12_most_63 : decode (yB m_X12_most) 63 = .ok (.dup2, 1) := by decide +kernel
theorem d_X12_most_64 : decode (yB m_X12_most) 64 = .ok (.laload, 1) := by decide +kernel
theorem d_X12_most_65 : decode (yB m_X12_most) 65 = .ok (.lconst 1, 1) := by decide +kernel
theorem d_X12_most_66 : decode (yB m_X12_most) 66 = .ok (.iload_n 2, 1) := by decide +kernel
theorem d_X12_most_67 : decode (yB m_X12_most) 67 = .ok (.lshl, 1) := by decide +kernel
theorem d_X12_most_68 : decode (yB m_X12_most) 68 = .ok (.lor, 1) := by decide +kernel
theorem d_X12_most_69 : decode (yB m_X12_most) 69 = .ok (.lastore, 1) := by decide +kernel
theorem d_X12_most_70 : decode (yB m_X12_most) 70 = .ok (.iinc 2 1, 3) := by decide +kernel
theorem d_X12_most_73 : decode (yB m_X12_most) 73 = .ok (.goto (-34), 3) := by decide +kernel
theorem d_X12_most_76 : decode (yB m_X12_most) 76 = .ok (.iinc 1 1, 3) := by decide +kernel
theorem d_X12_most_79 : decode (yB m_X12_most) 79 = .ok (.goto (-57), 3) := by decide +kernel
theorem d_X12_most_82 : decode (yB m_X12_most) 82 = .ok (.aload_n 0, 1) := by decide +kernel
theorem d_X12_most_83 : decode (yB m_X12_most) 83 = .ok (.iconst 1, 1) := by decide +kernel
theorem d_X12_most_84 : decode (yB m_X12_most) 84 = .ok (.putfield 363, 3) := by decide +kernel
theorem d_X12_most_87 : decode (yB m_X12_most) 87 = .ok (.aload_n 0, 1) := by decide +kernel
theorem d_X12_most_88 : decode (yB m_X12_most) 88 = .ok (.aload_n 0, 1) := by decide +kernel
theorem d_X12_most_89 : decode (yB m_X12_most) 89 = .ok (.getfield 100, 3) := by decide +kernel
theorem d_X12_most_92 : decode (yB m_X12_most) 92 = .ok (.iconst 0, 1) := by decide +kernel
theorem d_X12_most_93 : decode (yB m_X12_most) 93 = .ok (.laload, 1) := by decide +kernel
theorem d_X12_most_94 : decode (yB m_X12_most) 94 = .ok (.iconst 1, 1) := by decide +kernel
theorem d_X12_most_95 : decode (yB m_X12_most) 95 = .ok (.invokevirtual 366, 3) := by decide +kernel
theorem d_X12_most_98 : decode (yB m_X12_most) 98 = .ok (.aload_n 0, 1) := by decide +kernel
theorem d_X12_most_99 : decode (yB m_X12_most) 99 = .ok (.getfield 363, 3) := by decide +kernel
theorem d_X12_most_102 : decode (yB m_X12_most) 102 = .ok (.ireturn, 1) := by decide +kernel
def fn_X12_most_82  (D : zD) : Option (Int32 × zD) := zlet (sI D 102 53 (1 : Int32)) fun D7 => (fn_X12_growsT (gL D7 202 0) (1 : Int32) D7).bind fun D8 => (some ((gI D8 102 53), D8))
def fn_X12_most_39 (k22 : Int32 → zD → Option (Int32 × zD)) : Nat → Int32 → Int32 → zD → Option (Int32 × zD)
  | 0, _, _, _ => none
  | n + 1, v1, v2, D => (fn_X12_allCells D).bind fun x11 => (if x11 < v2 then ((k22 (v1 + (1 : Int32)) D)) else (zck (v1 ^^^ v2) 4096 <| (if (gI D 201 (v1 ^^^ v2).toNatClampNeg) = 0 then (zck v1 64 <| zck v1 64 <| zlet (sL D 202 v1.toNatClampNeg ((gL D 202 v1.toNatClampNeg) ||| (zlshl (1 : Int64) v2))) fun D17 => ((fn_X12_most_39 k22 n) v1 (v2 + (1 : Int32)) D17)) else (((fn_X12_most_39 k22 n) v1 (v2 + (1 : Int32)) D)))))
def fn_X12_most_22  : Nat → Int32 → zD → Option (Int32 × zD)
  | 0, _, _ => none
  | n + 1, v1, D => (fn_X12_allCells D).bind fun x5 => (if x5 < v1 then ((fn_X12_most_82 D)) else (zck v1 64 <| zlet (sL D 202 v1.toNatClampNeg (0 : Int64)) fun D10 => (fn_X12_most_39 (fn_X12_most_22  n) zFU v1 (0 : Int32) D10)))
def fn_X12_most (D : zD) : Option (Int32 × zD) := zlet (sI D 102 0 (0 : Int32)) fun D1 => (fn_X12_cells D1).bind fun x2 => (if x2 ≤ (6 : Int32) then ((fn_X12_layAlike D1).bind fun D4 => (fn_X12_most_22 zFU (0 : Int32) D4)) else ((some ((-1 : Int32), D1))))
theorem s_X12_most_82 {X : zX} {Sh : zSh} {d : Nat} (hst : (zl X).stackTraces = false) (h0 : zSh0 Sh) (hd : 102 ≤ d)   (D : zD)  : Rn X m_X12_most (d + 1) 82 [(0, .ref 102)] [] (Sh, D) ((oI Sh) (fn_X12_most_82  D)) := by
  rw [fn_X12_most_82]
  refine r_aload_n (pc := 82) 0 d_X12_most_82 rfl rfl ?_
  refine r_iconst (pc := 83) (1 : Int32) d_X12_most_83 rfl ?_
  refine r_putI (pc := 84) p_X12_363 (K_102 h0) rfl (Or.inl rfl) d_X12_most_84 ?_
  refine r_letD (f := (oI Sh)) (fun D7 => ?_)
  refine r_aload_n (pc := 87) 0 d_X12_most_87 rfl rfl ?_
  refine r_aload_n (pc := 88) 0 d_X12_most_88 rfl rfl ?_
  refine r_getR (pc := 89) g_X12_100 (K_102 h0) rfl (R_102_52 h0) d_X12_most_89 ?_
  refine r_iconst (pc := 92) (0 : Int32) d_X12_most_92 rfl ?_
  refine q_lald (pc := 93) (j := 0) (K_202 h0) (by unfold vp_in; decide) rfl d_X12_most_93 ?_
  refine r_iconst (pc := 94) (1 : Int32) d_X12_most_94 rfl ?_
  refine q_cV (f := (oI Sh)) (av := [.ref 102, .long (gL D7 202 0), .int (1 : Int32)]) (st := []) (z_runV ck_X12_grows rfl ml_X12_366 ci_X12_grows cv_X12_grows (K_102 h0) (ci := 12) rfl rfl (Nat.le_of_ble_eq_true rfl) d_X12_most_95) (s_X12_growsT hst h0 (by omega)) kp_I (fun D8 _ => ?_)
  refine r_aload_n (pc := 98) 0 d_X12_most_98 rfl rfl ?_
  refine q_gI (pc := 99) g_X12_363 (K_102 h0) rfl d_X12_most_99 ?_
  exact r_iret (pc := 102) rfl d_X12_most_102
theorem s_X12_most_39 {X : zX} {Sh : zSh} {d : Nat} (hst : (zl X).stackTraces = false) (h0 : zSh0 Sh) (hd : 102 ≤ d) (k22 : Int32 → zD → Option (Int32 × zD)) (hk22 : ∀ (v1 : Int32) (D : zD) , Rn X m_X12_most (d + 1) 22 [(0, .ref 102), (1, .int v1)] [] (Sh, D) ((oI Sh) (k22 v1 D))) : ∀ (n : Nat) (v1 : Int32) (v2 : Int32) (D : zD) , Rn X m_X12_most (d + 1) 39 [(0, .ref 102), (1, .int v1), (2, .int v2)] [] (Sh, D) ((oI Sh) (fn_X12_most_39 k22 n v1 v2 D)) := by
  intro n
  induction n with
  | zero => intro v1 v2 D; exact Rn_none rfl
  | succ n hk39 =>
    intro v1 v2 D
    rw [fn_X12_most_39]
    refine r_iload_n (pc := 39) 2 d_X12_most_39 rfl rfl ?_
    refine r_aload_n (pc := 40) 0 d_X12_most_40 rfl rfl ?_
    refine q_cP (f := (oI Sh)) (av := [.ref 102]) (st := [.int v2]) (z_runV ck_X12_allCells rfl ml_X12_269 ci_X12_allCells cv_X12_allCells (K_102 h0) (ci := 12) rfl rfl (Nat.le_of_ble_eq_true rfl) d_X12_most_41) (s_X12_allCells hst h0 (by omega)) kp_I (fun x11 _ => ?_)
    refine r_icmp_gt (f := (oI Sh)) (pc := 44) 76 d_X12_most_44 (by decide) (fun c12 => ?_) (fun c12 => ?_)
    · refine r_iinc (pc := 76) ((v1 + (1 : Int32))) 1 (ls' := [(1, .int (v1 + (1 : Int32))), (0, .ref 102), (2, .int v2)]) d_X12_most_76 rfl rfl (Nat.le_of_ble_eq_true rfl) rfl ?_
      refine r_goto (pc := 79) 22 d_X12_most_79 (by decide) ?_
      refine r_pick [1, 0] (ls' := [(0, .ref 102), (1, .int (v1 + (1 : Int32)))]) rfl ?_
      exact hk22 (v1 + (1 : Int32)) D 
    · refine r_aload_n (pc := 47) 0 d_X12_most_47 rfl rfl ?_
      refine r_getR (pc := 48) g_X12_97 (K_102 h0) rfl (R_102_51 h0) d_X12_most_48 ?_
      refine r_iload_n (pc := 51) 1 d_X12_most_51 rfl rfl ?_
      refine r_iload_n (pc := 52) 2 d_X12_most_52 rfl rfl ?_
      refine r_ixor (pc := 53) d_X12_most_53 ?_
      refine r_ck (f := (oI Sh)) rfl (fun hc13 => ?_)
      refine q_zald (pc := 54) (j := (v1 ^^^ v2).toNatClampNeg) (K_201 h0) hc13 rfl d_X12_most_54 ?_
      refine r_if_ne (f := (oI Sh)) (pc := 55) 70 d_X12_most_55 (by decide) (fun c14 => ?_) (fun c14 => ?_)
      · refine r_iinc (pc := 70) ((v2 + (1 : Int32))) 2 (ls' := [(2, .int (v2 + (1 : Int32))), (0, .ref 102), (1, .int v1)]) d_X12_most_70 rfl rfl (Nat.le_of_ble_eq_true rfl) rfl ?_
        refine r_goto (pc := 73) 39 d_X12_most_73 (by decide) ?_
        refine r_pick [1, 2, 0] (ls' := [(0, .ref 102), (1, .int v1), (2, .int (v2 + (1 : Int32)))]) rfl ?_
        exact hk39 v1 (v2 + (1 : Int32)) D 
      · refine r_aload_n (pc := 58) 0 d_X12_most_58 rfl rfl ?_
        refine r_getR (pc := 59) g_X12_100 (K_102 h0) rfl (R_102_52 h0) d_X12_most_59 ?_
        refine r_iload_n (pc := 62) 1 d_X12_most_62 rfl rfl ?_
        refine r_dup2 (pc := 63) d_X12_most_63 rfl rfl ?_
        refine r_ck (f := (oI Sh)) rfl (fun hc15 => ?_)
        refine q_lald (pc := 64) (j := v1.toNatClampNeg) (K_202 h0) hc15 rfl d_X12_most_64 ?_
        refine r_lconst (pc := 65) (1 : Int64) d_X12_most_65 rfl ?_
        refine r_iload_n (pc := 66) 2 d_X12_most_66 rfl rfl ?_
        refine r_lshl (pc := 67) d_X12_most_67 ?_
        refine r_lor (pc := 68) d_X12_most_68 ?_
        refine r_ck (f := (oI Sh)) rfl (fun hc16 => ?_)
        refine q_last (pc := 69) (j := v1.toNatClampNeg) (K_202 h0) hc16 rfl  d_X12_most_69 ?_
        refine r_letD (f := (oI Sh)) (fun D17 => ?_)
        refine r_iinc (pc := 70) ((v2 + (1 : Int32))) 2 (ls' := [(2, .int (v2 + (1 : Int32))), (0, .ref 102), (1, .int v1)]) d_X12_most_70 rfl rfl (Nat.le_of_ble_eq_true rfl) rfl ?_
        refine r_goto (pc := 73) 39 d_X12_most_73 (by decide) ?_
        refine r_pick [1, 2, 0] (ls' := [(0, .ref 102), (1, .int v1), (2, .int (v2 + (1 : Int32)))]) rfl ?_
        exact hk39 v1 (v2 + (1 : Int32)) D17 
theorem s_X12_most_22 {X : zX} {Sh : zSh} {d : Nat} (hst : (zl X).stackTraces = false) (h0 : zSh0 Sh) (hd : 102 ≤ d)  : ∀ (n : Nat) (v1 : Int32) (D : zD) , Rn X m_X12_most (d + 1) 22 [(0, .ref 102), (1, .int v1)] [] (Sh, D) ((oI Sh) (fn_X12_most_22  n v1 D)) := by
  intro n
  induction n with
  | zero => intro v1 D; exact Rn_none rfl
  | succ n hk22 =>
    intro v1 D
    rw [fn_X12_most_22]
    refine r_iload_n (pc := 22) 1 d_X12_most_22 rfl rfl ?_
    refine r_aload_n (pc := 23) 0 d_X12_most_23 rfl rfl ?_
    refine q_cP (f := (oI Sh)) (av := [.ref 102]) (st := [.int v1]) (z_runV ck_X12_allCells rfl ml_X12_269 ci_X12_allCells cv_X12_allCells (K_102 h0) (ci := 12) rfl rfl (Nat.le_of_ble_eq_true rfl) d_X12_most_24) (s_X12_allCells hst h0 (by omega)) kp_I (fun x5 _ => ?_)
    refine r_icmp_gt (f := (oI Sh)) (pc := 27) 82 d_X12_most_27 (by decide) (fun c6 => ?_) (fun c6 => ?_)
    · refine r_pick [0] (ls' := [(0, .ref 102)]) rfl ?_
      exact s_X12_most_82 hst h0 hd D
    · refine r_aload_n (pc := 30) 0 d_X12_most_30 rfl rfl ?_
      refine r_getR (pc := 31) g_X12_100 (K_102 h0) rfl (R_102_52 h0) d_X12_most_31 ?_
      refine r_iload_n (pc := 34) 1 d_X12_most_34 rfl rfl ?_
      refine r_lconst (pc := 35) (0 : Int64) d_X12_most_35 rfl ?_
      refine r_ck (f := (oI Sh)) rfl (fun hc9 => ?_)
      refine q_last (pc := 36) (j := v1.toNatClampNeg) (K_202 h0) hc9 rfl  d_X12_most_36 ?_
      refine r_letD (f := (oI Sh)) (fun D10 => ?_)
      refine r_iconst (pc := 37) (0 : Int32) d_X12_most_37 rfl ?_
      refine r_istore_n (pc := 38) (ls' := [(2, .int (0 : Int32)), (0, .ref 102), (1, .int v1)]) d_X12_most_38 rfl (Nat.le_of_ble_eq_true rfl) rfl ?_
      refine r_pick [1, 2, 0] (ls' := [(0, .ref 102), (1, .int v1), (2, .int (0 : Int32))]) rfl ?_
      exact s_X12_most_39 hst h0 hd (fn_X12_most_22  n) hk22 zFU  v1 (0 : Int32) D10
theorem s_X12_most {X : zX} {Sh : zSh} {d : Nat} (hst : (zl X).stackTraces = false) (h0 : zSh0 Sh) (hd : 103 ≤ d)  {D : zD} : Sd X m_X12_most d [.ref 102] (Sh, D) ((oI Sh) (fn_X12_most D)) := by
  obtain ⟨d, rfl⟩ : ∃ e, d = e + 1 := ⟨d - 1, by omega⟩
  replace hd : 102 ≤ d := by omega
  refine z_body ck_X12_most rfl (Nat.le_of_ble_eq_true rfl) rfl hst ?_
  rw [fn_X12_most]
  show Rn X m_X12_most (d + 1) 0 [(0, .ref 102)] [] (Sh, D) _
  refine r_aload_n (pc := 0) 0 d_X12_most_0 rfl rfl ?_
  refine r_iconst (pc := 1) (0 : Int32) d_X12_most_1 rfl ?_
  refine r_putI (pc := 2) p_X12_113 (K_102 h0) rfl (Or.inl rfl) d_X12_most_2 ?_
  refine r_letD (f := (oI Sh)) (fun D1 => ?_)
  refine r_aload_n (pc := 5) 0 d_X12_most_5 rfl rfl ?_
  refine q_cP (f := (oI Sh)) (av := [.ref 102]) (st := []) (z_runV ck_X12_cells rfl ml_X12_242 ci_X12_cells cv_X12_cells (K_102 h0) (ci := 12) rfl rfl (Nat.le_of_ble_eq_true rfl) d_X12_most_6) (s_X12_cells hst h0 (by omega)) kp_I (fun x2 _ => ?_)
  refine r_bipush (pc := 9) (6 : Int32) d_X12_most_9 rfl ?_
  refine r_icmp_le (f := (oI Sh)) (pc := 11) 16 d_X12_most_11 (by decide) (fun c3 => ?_) (fun c3 => ?_)
  · refine r_aload_n (pc := 16) 0 d_X12_most_16 rfl rfl ?_
    refine q_cV (f := (oI Sh)) (av := [.ref 102]) (st := []) (z_runV ck_X12_layAlike rfl ml_X12_360 ci_X12_layAlike cv_X12_layAlike (K_102 h0) (ci := 12) rfl rfl (Nat.le_of_ble_eq_true rfl) d_X12_most_17) (s_X12_layAlike hst h0 (by omega)) kp_I (fun D4 _ => ?_)
    refine r_iconst (pc := 20) (0 : Int32) d_X12_most_20 rfl ?_
    refine r_istore_n (pc := 21) (ls' := [(1, .int (0 : Int32)), (0, .ref 102)]) d_X12_most_21 rfl (Nat.le_of_ble_eq_true rfl) rfl ?_
    refine r_pick [1, 0] (ls' := [(0, .ref 102), (1, .int (0 : Int32))]) rfl ?_
    exact s_X12_most_22 hst h0 hd zFU  (0 : Int32) D4
  · refine r_iconst (pc := 14) (-1 : Int32) d_X12_most_14 rfl ?_
    exact r_iret (pc := 15) rfl d_X12_most_15
/-! CoveredSignsModel.taken -/
theorem d_X12_taken_0 : decode (yB m_X12_taken) 0 = .ok (.aload_n 0, 1) := by decide +kernel
theorem d_X12_taken_1 : decode (yB m_X12_taken) 1 = .ok (.iconst 0, 1) := by decide +kernel
theorem d_X12_taken_2 : decode (yB m_X12_taken) 2 = .ok (.putfield 113, 3) := by decide +kernel
theorem d_X12_taken_5 : decode (yB m_X12_taken) 5 = .ok (.aload_n 0, 1) := by decide +kernel
theorem d_X12_taken_6 : decode (yB m_X12_taken) 6 = .ok (.invokevirtual 242, 3) := by decide +kernel
theorem d_X12_taken_9 : decode (yB m_X12_taken) 9 = .ok (.bipush 12, 2) := by decide +kernel
theorem d_X12_taken_11 : decode (yB m_X12_taken) 11 = .ok (.if_icmp .le 5, 3) := by decide +kernel
theorem d_X12_taken_14 : decode (yB m_X12_taken) 14 = .ok (.iconst (-1), 1) := by decide +kernel
theorem d_X12_taken_15 : decode (yB m_X12_taken) 15 = .ok (.ireturn, 1) := by decide +kernel
theorem d_X12_taken_16 : decode (yB m_X12_taken) 16 = .ok (.aload_n 0, 1) := by decide +kernel
theorem d_X12_taken_17 : decode (yB m_X12_taken) 17 = .ok (.invokevirtual 360, 3) := by decide +kernel
theorem d_X12_taken_20 : decode (yB m_X12_taken) 20 = .ok (.iconst 0, 1) := by decide +kernel
theorem d_X12_taken_21 : decode (yB m_X12_taken) 21 = .ok (.istore_n 1, 1) := by decide +kernel
theorem d_X12_taken_22 : decode (yB m_X12_taken) 22 = .ok (.iconst 0, 1) := by decide +kernel
theorem d_X12_taken_23 : decode (yB m_X12_taken) 23 = .ok (.istore_n 2, 1) := by decide +kernel
theorem d_X12_taken_24 : decode (yB m_X12_taken) 24 = .ok (.iload_n 2, 1) := by decide +kernel
theorem d_X12_taken_25 : decode (yB m_X12_taken) 25 = .ok (.aload_n 0, 1) := by decide +kernel
theorem d_X12_taken_26 : decode (yB m_X12_taken) 26 = .ok (.invokevirtual 269, 3) := by decide +kernel
theorem d_X12_taken_29 : decode (yB m_X12_taken) 29 = .ok (.if_icmp .gt 70, 3) := by decide +kernel
theorem d_X12_taken_32 : decode (yB m_X12_taken) 32 = .ok (.iconst 1, 1) := by decide +kernel
theorem d_X12_taken_33 : decode (yB m_X12_taken) 33 = .ok (.istore_n 3, 1) := by decide +kernel
theorem d_X12_taken_34 : decode (yB m_X12_taken) 34 = .ok (.iconst 0, 1) := by decide +kernel
theorem d_X12_taken_35 : decode (yB m_X12_taken) 35 = .ok (.istore 4, 2) := by decide +kernel
theorem d_X12_taken_37 : decode (yB m_X12_taken) 37 = .ok (.iload 4, 2) := by decide +kernel
theorem d_X12_taken_39 : decode (yB m_X12_taken) 39 = .ok (.iload_n 1, 1) := by decide +kernel
theorem d_X12_taken_40 : decode (yB m_X12_taken) 40 = .ok (.if_icmp .ge 36, 3) := by decide +kernel
theorem d_X12_taken_43 : decode (yB m_X12_taken) 43 = .ok (.iload_n 3, 1) := by decide +kernel
theorem d_X12_taken_44 : decode (yB m_X12_taken) 44 = .ok (.ifCond .eq 32, 3) := by decide +kernel
theorem d_X12_taken_47 : decode (yB m_X12_taken) 47 = .ok (.aload_n 0, 1) := by decide +kernel
theorem d_X12_taken_48 : decode (yB m_X12_taken) 48 = .ok (.getfield 97, 3) := by decide +kernel
theorem d_X12_taken_51 : decode (yB m_X12_taken) 51 = .ok (.iload_n 2, 1) := by decide +kernel
theorem d_X12_taken_52 : decode (yB m_X12_taken) 52 = .ok (.aload_n 0, 1) := by decide +kernel
theorem d_X12_taken_53 : decode (yB m_X12_taken) 53 = .ok (.getfield 104, 3) := by decide +kernel
theorem d_X12_taken_56 : decode (yB m_X12_taken) 56 = .ok (.iload 4, 2) := by decide +kernel
theorem d_X12_taken_58 : decode (yB m_X12_taken) 58 = .ok (.iaload, 1) := by decide +kernel
theorem d_X12_taken_59 : decode (yB m_X12_taken) 59 = .ok (.ixor, 1) := by decide +kernel
theorem d_X12_taken_60 : decode (yB m_X12_taken) 60 = .ok (.baload, 1) := by decide +kernel
theorem d_X12_taken_61 : decode (yB m_X12_taken) 61 = .ok (.ifCond .ne 7, 3) := by decide +kernel
theorem d_X12_taken_64 : decode (yB m_X12_taken) 64 = .ok (.iconst 1, 1) := by decide +kernel
theorem d_X12_taken_65 : decode (yB m_X12_taken) 65 = .ok (.goto 4, 3) := by decide +kernel
theorem d_X12_taken_68 : decode (yB m_X12_taken) 68 = .ok (.iconst 0, 1) := by decide +kernel
theorem d_X12_taken_69 : decode (yB m_X12_taken) 69 = .ok (.istore_n 3, 1) := by decide +kernel
theorem d_X12_taken_70 : decode (yB m_X12_taken) 70 = .ok (.iinc 4 1, 3) := by decide +kernel
theorem d_X12_taken_73 : decode (yB m_X12_taken) 73 = .ok (.goto (-36), 3) := by decide +kernel
theorem d_X12_taken_76 : decode (yB m_X12_taken) 76 = .ok (.iload_n 3, 1) := by decide +kernel
theorem d_X12_taken_77 : decode (yB m_X12_taken) 77 = .ok (.ifCond .ne 6, 3) := by decide +kernel
theorem d_X12_taken_80 : decode (yB m_X12_taken) 80 = .ok (.goto 13, 3) := by decide +kernel
theorem d_X12_taken_83 : decode (yB m_X12_taken) 83 = .ok (.aload_n 0, 1) := by decide +kernel
theorem d_X12_taken_84 : decode (yB m_X12_taken) 84 = .ok (.getfield 104, 3) := by decide +kernel
theorem d_X12_taken_87 : decode (yB m_X12_taken) 87 = .ok (.iload_n 1, 1) := by decide +kernel
theorem d_X12_taken_88 : decode (yB m_X12_taken) 88 = .ok (.iload_n 2, 1) := by decide +kernel
theorem d_X12_taken_89 : decode (yB m_X12_taken) 89 = .ok (.iastore, 1) := by decide +kernel
theorem d_X12_taken_90 : decode (yB m_X12_taken) 90 = .ok (.iinc 1 1, 3) := by decide +kernel
theorem d_X12_taken_93 : decode (yB m_X12_taken) 93 = .ok (.iinc 2 1, 3) := by decide +kernel
theorem d_X12_taken_96 : decode (yB m_X12_taken) 96 = .ok (.goto (-72), 3) := by decide +kernel
theorem d_X12_taken_99 : decode (yB m_X12_taken) 99 = .ok (.iload_n 1, 1) := by decide +kernel
theorem d_X12_taken_100 : decode (yB m_X12_taken) 100 = .ok (.ireturn, 1) := by decide +kernel
def fn_X12_taken_76 (k24 : Int32 → Int32 → zD → Option (Int32 × zD)) (v1 : Int32) (v2 : Int32) (v3 : Int32) (D : zD) : Option (Int32 × zD) := (if v3 = 0 then ((k24 v1 (v2 + (1 : Int32)) D)) else (zck v1 4096 <| zlet (sI D 203 v1.toNatClampNeg v2) fun D10 => (k24 (v1 + (1 : Int32)) (v2 + (1 : Int32)) D10)))
def fn_X12_taken_37 (k24 : Int32 → Int32 → zD → Option (Int32 × zD)) : Nat → Int32 → Int32 → Int32 → Int32 → zD → Option (Int32 × zD)
  | 0, _, _, _, _, _ => none
  | n + 1, v1, v2, v3, v4, D => (if v1 ≤ v4 then ((fn_X12_taken_76 k24 v1 v2 v3 D)) else ((if v3 = 0 then ((fn_X12_taken_76 k24 v1 v2 v3 D)) else (zck v4 4096 <| zck (v2 ^^^ (gI D 203 v4.toNatClampNeg)) 4096 <| (if (gI D 201 (v2 ^^^ (gI D 203 v4.toNatClampNeg)).toNatClampNeg) = 0 then (((fn_X12_taken_37 k24 n) v1 v2 (1 : Int32) (v4 + (1 : Int32)) D)) else (((fn_X12_taken_37 k24 n) v1 v2 (0 : Int32) (v4 + (1 : Int32)) D)))))))
def fn_X12_taken_24  : Nat → Int32 → Int32 → zD → Option (Int32 × zD)
  | 0, _, _, _ => none
  | n + 1, v1, v2, D => (fn_X12_allCells D).bind fun x5 => (if x5 < v2 then ((some (v1, D))) else ((fn_X12_taken_37 (fn_X12_taken_24  n) zFU v1 v2 (1 : Int32) (0 : Int32) D)))
def fn_X12_taken (D : zD) : Option (Int32 × zD) := zlet (sI D 102 0 (0 : Int32)) fun D1 => (fn_X12_cells D1).bind fun x2 => (if x2 ≤ (12 : Int32) then ((fn_X12_layAlike D1).bind fun D4 => (fn_X12_taken_24 zFU (0 : Int32) (0 : Int32) D4)) else ((some ((-1 : Int32), D1))))
theorem s_X12_taken_76 {X : zX} {Sh : zSh} {d : Nat} (hst : (zl X).stackTraces = false) (h0 : zSh0 Sh) (hd : 3 ≤ d) (k24 : Int32 → Int32 → zD → Option (Int32 × zD)) (hk24 : ∀ (v1 : Int32) (v2 : Int32) (D : zD) , Rn X m_X12_taken (d + 1) 24 [(0, .ref 102), (1, .int v1), (2, .int v2)] [] (Sh, D) ((oI Sh) (k24 v1 v2 D))) (v1 : Int32) (v2 : Int32) (v3 : Int32) (D : zD)  : Rn X m_X12_taken (d + 1) 76 [(0, .ref 102), (1, .int v1), (2, .int v2), (3, .int v3)] [] (Sh, D) ((oI Sh) (fn_X12_taken_76 k24 v1 v2 v3 D)) := by
  rw [fn_X12_taken_76]
  refine r_iload_n (pc := 76) 3 d_X12_taken_76 rfl rfl ?_
  refine r_if_ne (f := (oI Sh)) (pc := 77) 83 d_X12_taken_77 (by decide) (fun c8 => ?_) (fun c8 => ?_)
  · refine r_aload_n (pc := 83) 0 d_X12_taken_83 rfl rfl ?_
    refine r_getR (pc := 84) g_X12_104 (K_102 h0) rfl (R_102_54 h0) d_X12_taken_84 ?_
    refine r_iload_n (pc := 87) 1 d_X12_taken_87 rfl rfl ?_
    refine r_iload_n (pc := 88) 2 d_X12_taken_88 rfl rfl ?_
    refine r_ck (f := (oI Sh)) rfl (fun hc9 => ?_)
    refine q_iast (pc := 89) (j := v1.toNatClampNeg) (K_203 h0) hc9 rfl  d_X12_taken_89 ?_
    refine r_letD (f := (oI Sh)) (fun D10 => ?_)
    refine r_iinc (pc := 90) ((v1 + (1 : Int32))) 1 (ls' := [(1, .int (v1 + (1 : Int32))), (0, .ref 102), (2, .int v2), (3, .int v3)]) d_X12_taken_90 rfl rfl (Nat.le_of_ble_eq_true rfl) rfl ?_
    refine r_iinc (pc := 93) ((v2 + (1 : Int32))) 2 (ls' := [(2, .int (v2 + (1 : Int32))), (1, .int (v1 + (1 : Int32))), (0, .ref 102), (3, .int v3)]) d_X12_taken_93 rfl rfl (Nat.le_of_ble_eq_true rfl) rfl ?_
    refine r_goto (pc := 96) 24 d_X12_taken_96 (by decide) ?_
    refine r_pick [2, 1, 0] (ls' := [(0, .ref 102), (1, .int (v1 + (1 : Int32))), (2, .int (v2 + (1 : Int32)))]) rfl ?_
    exact hk24 (v1 + (1 : Int32)) (v2 + (1 : Int32)) D10 
  · refine r_goto (pc := 80) 93 d_X12_taken_80 (by decide) ?_
    refine r_iinc (pc := 93) ((v2 + (1 : Int32))) 2 (ls' := [(2, .int (v2 + (1 : Int32))), (0, .ref 102), (1, .int v1), (3, .int v3)]) d_X12_taken_93 rfl rfl (Nat.le_of_ble_eq_true rfl) rfl ?_
    refine r_goto (pc := 96) 24 d_X12_taken_96 (by decide) ?_
    refine r_pick [1, 2, 0] (ls' := [(0, .ref 102), (1, .int v1), (2, .int (v2 + (1 : Int32)))]) rfl ?_
    exact hk24 v1 (v2 + (1 : Int32)) D 
theorem s_X12_taken_37 {X : zX} {Sh : zSh} {d : Nat} (hst : (zl X).stackTraces = false) (h0 : zSh0 Sh) (hd : 3 ≤ d) (k24 : Int32 → Int32 → zD → Option (Int32 × zD)) (hk24 : ∀ (v1 : Int32) (v2 : Int32) (D : zD) , Rn X m_X12_taken (d + 1) 24 [(0, .ref 102), (1, .int v1), (2, .int v2)] [] (Sh, D) ((oI Sh) (k24 v1 v2 D))) : ∀ (n : Nat) (v1 : Int32) (v2 : Int32) (v3 : Int32) (v4 : Int32) (D : zD) , Rn X m_X12_taken (d + 1) 37 [(0, .ref 102), (1, .int v1), (2, .int v2), (3, .int v3), (4, .int v4)] [] (Sh, D) ((oI Sh) (fn_X12_taken_37 k24 n v1 v2 v3 v4 D)) := by
  intro n
  induction n with
  | zero => intro v1 v2 v3 v4 D; exact Rn_none rfl
  | succ n hk37 =>
    intro v1 v2 v3 v4 D
    rw [fn_X12_taken_37]
    refine r_iload (pc := 37) 4 d_X12_taken_37 rfl ?_
    refine r_iload_n (pc := 39) 1 d_X12_taken_39 rfl rfl ?_
    refine r_icmp_ge (f := (oI Sh)) (pc := 40) 76 d_X12_taken_40 (by decide) (fun c7 => ?_) (fun c7 => ?_)
    · refine r_pick [0, 1, 2, 3] (ls' := [(0, .ref 102), (1, .int v1), (2, .int v2), (3, .int v3)]) rfl ?_
      exact s_X12_taken_76 hst h0 hd k24 hk24 v1 v2 v3 D
    · refine r_iload_n (pc := 43) 3 d_X12_taken_43 rfl rfl ?_
      refine r_if_eq (f := (oI Sh)) (pc := 44) 76 d_X12_taken_44 (by decide) (fun c11 => ?_) (fun c11 => ?_)
      · refine r_pick [0, 1, 2, 3] (ls' := [(0, .ref 102), (1, .int v1), (2, .int v2), (3, .int v3)]) rfl ?_
        exact s_X12_taken_76 hst h0 hd k24 hk24 v1 v2 v3 D
      · refine r_aload_n (pc := 47) 0 d_X12_taken_47 rfl rfl ?_
        refine r_getR (pc := 48) g_X12_97 (K_102 h0) rfl (R_102_51 h0) d_X12_taken_48 ?_
        refine r_iload_n (pc := 51) 2 d_X12_taken_51 rfl rfl ?_
        refine r_aload_n (pc := 52) 0 d_X12_taken_52 rfl rfl ?_
        refine r_getR (pc := 53) g_X12_104 (K_102 h0) rfl (R_102_54 h0) d_X12_taken_53 ?_
        refine r_iload (pc := 56) 4 d_X12_taken_56 rfl ?_
        refine r_ck (f := (oI Sh)) rfl (fun hc12 => ?_)
        refine q_iald (pc := 58) (j := v4.toNatClampNeg) (K_203 h0) hc12 rfl d_X12_taken_58 ?_
        refine r_ixor (pc := 59) d_X12_taken_59 ?_
        refine r_ck (f := (oI Sh)) rfl (fun hc13 => ?_)
        refine q_zald (pc := 60) (j := (v2 ^^^ (gI D 203 v4.toNatClampNeg)).toNatClampNeg) (K_201 h0) hc13 rfl d_X12_taken_60 ?_
        refine r_if_ne (f := (oI Sh)) (pc := 61) 68 d_X12_taken_61 (by decide) (fun c14 => ?_) (fun c14 => ?_)
        · refine r_iconst (pc := 68) (0 : Int32) d_X12_taken_68 rfl ?_
          refine r_istore_n (pc := 69) (ls' := [(3, .int (0 : Int32)), (0, .ref 102), (1, .int v1), (2, .int v2), (4, .int v4)]) d_X12_taken_69 rfl (Nat.le_of_ble_eq_true rfl) rfl ?_
          refine r_iinc (pc := 70) ((v4 + (1 : Int32))) 4 (ls' := [(4, .int (v4 + (1 : Int32))), (3, .int (0 : Int32)), (0, .ref 102), (1, .int v1), (2, .int v2)]) d_X12_taken_70 rfl rfl (Nat.le_of_ble_eq_true rfl) rfl ?_
          refine r_goto (pc := 73) 37 d_X12_taken_73 (by decide) ?_
          refine r_pick [2, 3, 4, 1, 0] (ls' := [(0, .ref 102), (1, .int v1), (2, .int v2), (3, .int (0 : Int32)), (4, .int (v4 + (1 : Int32)))]) rfl ?_
          exact hk37 v1 v2 (0 : Int32) (v4 + (1 : Int32)) D 
        · refine r_iconst (pc := 64) (1 : Int32) d_X12_taken_64 rfl ?_
          refine r_goto (pc := 65) 69 d_X12_taken_65 (by decide) ?_
          refine r_istore_n (pc := 69) (ls' := [(3, .int (1 : Int32)), (0, .ref 102), (1, .int v1), (2, .int v2), (4, .int v4)]) d_X12_taken_69 rfl (Nat.le_of_ble_eq_true rfl) rfl ?_
          refine r_iinc (pc := 70) ((v4 + (1 : Int32))) 4 (ls' := [(4, .int (v4 + (1 : Int32))), (3, .int (1 : Int32)), (0, .ref 102), (1, .int v1), (2, .int v2)]) d_X12_taken_70 rfl rfl (Nat.le_of_ble_eq_true rfl) rfl ?_
          refine r_goto (pc := 73) 37 d_X12_taken_73 (by decide) ?_
          refine r_pick [2, 3, 4, 1, 0] (ls' := [(0, .ref 102), (1, .int v1), (2, .int v2), (3, .int (1 : Int32)), (4, .int (v4 + (1 : Int32)))]) rfl ?_
          exact hk37 v1 v2 (1 : Int32) (v4 + (1 : Int32)) D 
theorem s_X12_taken_24 {X : zX} {Sh : zSh} {d : Nat} (hst : (zl X).stackTraces = false) (h0 : zSh0 Sh) (hd : 3 ≤ d)  : ∀ (n : Nat) (v1 : Int32) (v2 : Int32) (D : zD) , Rn X m_X12_taken (d + 1) 24 [(0, .ref 102), (1, .int v1), (2, .int v2)] [] (Sh, D) ((oI Sh) (fn_X12_taken_24  n v1 v2 D)) := by
  intro n
  induction n with
  | zero => intro v1 v2 D; exact Rn_none rfl
  | succ n hk24 =>
    intro v1 v2 D
    rw [fn_X12_taken_24]
    refine r_iload_n (pc := 24) 2 d_X12_taken_24 rfl rfl ?_
    refine r_aload_n (pc := 25) 0 d_X12_taken_25 rfl rfl ?_
    refine q_cP (f := (oI Sh)) (av := [.ref 102]) (st := [.int v2]) (z_runV ck_X12_allCells rfl ml_X12_269 ci_X12_allCells cv_X12_allCells (K_102 h0) (ci := 12) rfl rfl (Nat.le_of_ble_eq_true rfl) d_X12_taken_26) (s_X12_allCells hst h0 (by omega)) kp_I (fun x5 _ => ?_)
    refine r_icmp_gt (f := (oI Sh)) (pc := 29) 99 d_X12_taken_29 (by decide) (fun c6 => ?_) (fun c6 => ?_)
    · refine r_iload_n (pc := 99) 1 d_X12_taken_99 rfl rfl ?_
      exact r_iret (pc := 100) rfl d_X12_taken_100
    · refine r_iconst (pc := 32) (1 : Int32) d_X12_taken_32 rfl ?_
      refine r_istore_n (pc := 33) (ls' := [(3, .int (1 : Int32)), (0, .ref 102), (1, .int v1), (2, .int v2)]) d_X12_taken_33 rfl (Nat.le_of_ble_eq_true rfl) rfl ?_
      refine r_iconst (pc := 34) (0 : Int32) d_X12_taken_34 rfl ?_
      refine r_istore (pc := 35) (ls' := [(4, .int (0 : Int32)), (3, .int (1 : Int32)), (0, .ref 102), (1, .int v1), (2, .int v2)]) d_X12_taken_35 (Nat.le_of_ble_eq_true rfl) rfl ?_
      refine r_pick [2, 3, 4, 1, 0] (ls' := [(0, .ref 102), (1, .int v1), (2, .int v2), (3, .int (1 : Int32)), (4, .int (0 : Int32))]) rfl ?_
      exact s_X12_taken_37 hst h0 hd (fn_X12_taken_24  n) hk24 zFU  v1 v2 (1 : Int32) (0 : Int32) D
theorem s_X12_taken {X : zX} {Sh : zSh} {d : Nat} (hst : (zl X).stackTraces = false) (h0 : zSh0 Sh) (hd : 4 ≤ d)  {D : zD} : Sd X m_X12_taken d [.ref 102] (Sh, D) ((oI Sh) (fn_X12_taken D)) := by
  obtain ⟨d, rfl⟩ : ∃ e, d = e + 1 := ⟨d - 1, by omega⟩
  replace hd : 3 ≤ d := by omega
  refine z_body ck_X12_taken rfl (Nat.le_of_ble_eq_true rfl) rfl hst ?_
  rw [fn_X12_taken]
  show Rn X m_X12_taken (d + 1) 0 [(0, .ref 102)] [] (Sh, D) _
  refine r_aload_n (pc := 0) 0 d_X12_taken_0 rfl rfl ?_
  refine r_iconst (pc := 1) (0 : Int32) d_X12_taken_1 rfl ?_
  refine r_putI (pc := 2) p_X12_113 (K_102 h0) rfl (Or.inl rfl) d_X12_taken_2 ?_
  refine r_letD (f := (oI Sh)) (fun D1 => ?_)
  refine r_aload_n (pc := 5) 0 d_X12_taken_5 rfl rfl ?_
  refine q_cP (f := (oI Sh)) (av := [.ref 102]) (st := []) (z_runV ck_X12_cells rfl ml_X12_242 ci_X12_cells cv_X12_cells (K_102 h0) (ci := 12) rfl rfl (Nat.le_of_ble_eq_true rfl) d_X12_taken_6) (s_X12_cells hst h0 (by omega)) kp_I (fun x2 _ => ?_)
  refine r_bipush (pc := 9) (12 : Int32) d_X12_taken_9 rfl ?_
  refine r_icmp_le (f := (oI Sh)) (pc := 11) 16 d_X12_taken_11 (by decide) (fun c3 => ?_) (fun c3 => ?_)
  · refine r_aload_n (pc := 16) 0 d_X12_taken_16 rfl rfl ?_
    refine q_cV (f := (oI Sh)) (av := [.ref 102]) (st := []) (z_runV ck_X12_layAlike rfl ml_X12_360 ci_X12_layAlike cv_X12_layAlike (K_102 h0) (ci := 12) rfl rfl (Nat.le_of_ble_eq_true rfl) d_X12_taken_17) (s_X12_layAlike hst h0 (by omega)) kp_I (fun D4 _ => ?_)
    refine r_iconst (pc := 20) (0 : Int32) d_X12_taken_20 rfl ?_
    refine r_istore_n (pc := 21) (ls' := [(1, .int (0 : Int32)), (0, .ref 102)]) d_X12_taken_21 rfl (Nat.le_of_ble_eq_true rfl) rfl ?_
    refine r_iconst (pc := 22) (0 : Int32) d_X12_taken_22 rfl ?_
    refine r_istore_n (pc := 23) (ls' := [(2, .int (0 : Int32)), (1, .int (0 : Int32)), (0, .ref 102)]) d_X12_taken_23 rfl (Nat.le_of_ble_eq_true rfl) rfl ?_
    refine r_pick [2, 1, 0] (ls' := [(0, .ref 102), (1, .int (0 : Int32)), (2, .int (0 : Int32))]) rfl ?_
    exact s_X12_taken_24 hst h0 hd zFU  (0 : Int32) (0 : Int32) D4
  · refine r_iconst (pc := 14) (-1 : Int32) d_X12_taken_14 rfl ?_
    exact r_iret (pc := 15) rfl d_X12_taken_15
/-! CoveredSignsModel.stand -/
theorem d_X12_stand_0 : decode (yB m_X12_stand) 0 = .ok (.aload_n 0, 1) := by decide +kernel
theorem d_X12_stand_1 : decode (yB m_X12_stand) 1 = .ok (.iconst 0, 1) := by decide +kernel
theorem d_X12_stand_2 : decode (yB m_X12_stand) 2 = .ok (.putfield 113, 3) := by decide +kernel
theorem d_X12_stand_5 : decode (yB m_X12_stand) 5 = .ok (.aload_n 0, 1) := by decide +kernel
theorem d_X12_stand_6 : decode (yB m_X12_stand) 6 = .ok (.aload_n 0, 1) := by decide +kernel
theorem d_X12_stand_7 : decode (yB m_X12_stand) 7 = .ok (.iload_n 1, 1) := by decide +kernel
theorem d_X12_stand_8 : decode (yB m_X12_stand) 8 = .ok (.invokevirtual 296, 3) := by decide +kernel
theorem d_X12_stand_11 : decode (yB m_X12_stand) 11 = .ok (.ifCond .ne 7, 3) := by decide +kernel
theorem d_X12_stand_14 : decode (yB m_X12_stand) 14 = .ok (.iconst 1, 1) := by decide +kernel
theorem d_X12_stand_15 : decode (yB m_X12_stand) 15 = .ok (.goto 4, 3) := by decide +kernel
theorem d_X12_stand_18 : decode (yB m_X12_stand) 18 = .ok (.iconst 0, 1) := by decide +kernel
theorem d_X12_stand_19 : decode (yB m_X12_stand) 19 = .ok (.iconst 1, 1) := by decide +kernel
theorem d_X12_stand_20 : decode (yB m_X12_stand) 20 = .ok (.invokevirtual 214, 3) := by decide +kernel
theorem d_X12_stand_23 : decode (yB m_X12_stand) 23 = .ok (.ifCond .ne 36, 3) := by decide +kernel
theorem d_X12_stand_26 : decode (yB m_X12_stand) 26 = .ok (.aload_n 0, 1) := by decide +kernel
theorem d_X12_stand_27 : decode (yB m_X12_stand) 27 = .ok (.iload_n 2, 1) := by decide +kernel
theorem d_X12_stand_28 : decode (yB m_X12_stand) 28 = .ok (.iconst 0, 1) := by decide +kernel
theorem d_X12_stand_29 : decode (yB m_X12_stand) 29 = .ok (.bipush 99, 2) := by decide +kernel
theorem d_X12_stand_31 : decode (yB m_X12_stand) 31 = .ok (.invokestatic 147, 3) := by decide +kernel
theorem d_X12_stand_34 : decode (yB m_X12_stand) 34 = .ok (.ifCond .eq 13, 3) := by decide +kernel
theorem d_X12_stand_37 : decode (yB m_X12_stand) 37 = .ok (.iload_n 3, 1) := by decide +kernel
theorem d_X12_stand_38 : decode (yB m_X12_stand) 38 = .ok (.iconst 1, 1) := by decide +kernel
theorem d_X12_stand_39 : decode (yB m_X12_stand) 39 = .ok (.bipush 99, 2) := by decide +kernel
theorem d_X12_stand_41 : decode (yB m_X12_stand) 41 = .ok (.invokestatic 147, 3) := by decide +kernel
theorem d_X12_stand_44 : decode (yB m_X12_stand) 44 = .ok (.ifCond .ne 7, 3) := by decide +kernel
theorem d_X12_stand_47 : decode (yB m_X12_stand) 47 = .ok (.iconst 1, 1) := by decide +kernel
theorem d_X12_stand_48 : decode (yB m_X12_stand) 48 = .ok (.goto 4, 3) := by decide +kernel
theorem d_X12_stand_51 : decode (yB m_X12_stand) 51 = .ok (.iconst 0, 1) := by decide +kernel
theorem d_X12_stand_52 : decode (yB m_X12_stand) 52 = .ok (.iconst 2, 1) := by decide +kernel
theorem d_X12_stand_53 : decode (yB m_X12_stand) 53 = .ok (.invokevirtual 214, 3) := by decide +kernel
theorem d_X12_stand_56 : decode (yB m_X12_stand) 56 = .ok (.ifCond .eq 5, 3) := by decide +kernel
theorem d_X12_stand_59 : decode (yB m_X12_stand) 59 = .ok (.iconst 0, 1) := by decide +kernel
theorem d_X12_stand_60 : decode (yB m_X12_stand) 60 = .ok (.ireturn, 1) := by decide +kernel
theorem d_X12_stand_61 : decode (yB m_X12_stand) 61 = .ok (.aload_n 0, 1) := by decide +kernel
theorem d_X12_stand_62 : decode (yB m_X12_stand) 62 = .ok (.getfield 236, 3) := by decide +kernel
theorem d_X12_stand_65 : decode (yB m_X12_stand) 65 = .ok (.bipush 8, 2) := by decide +kernel
theorem d_X12_stand_67 : decode (yB m_X12_stand) 67 = .ok (.if_icmp .ne 5, 3) := by decide +kernel
theorem d_X12_stand_70 : decode (yB m_X12_stand) 70 = .ok (.iconst (-1), 1) := by decide +kernel
theorem d_X12_stand_71 : decode (yB m_X12_stand) 71 = .ok (.ireturn, 1) := by decide +kernel
theorem d_X12_stand_72 : decode (yB m_X12_stand) 72 = .ok (.aload_n 0, 1) := by decide +kernel
theorem d_X12_stand_73 : decode (yB m_X12_stand) 73 = .ok (.getfield 67, 3) := by decide +kernel
theorem d_X12_stand_76 : decode (yB m_X12_stand) 76 = .ok (.aload_n 0, 1) := by decide +kernel
theorem d_X12_stand_77 : decode (yB m_X12_stand) 77 = .ok (.getfield 236, 3) := by decide +kernel
theorem d_X12_stand_80 : decode (yB m_X12_stand) 80 = .ok (.aaload, 1) := by decide +kernel
theorem d_X12_stand_81 : decode (yB m_X12_stand) 81 = .ok (.iconst 0, 1) := by decide +kernel
theorem d_X12_stand_82 : decode (yB m_X12_stand) 82 = .ok (.iload_n 1, 1) := by decide +kernel
theorem d_X12_stand_83 : decode (yB m_X12_stand) 83 = .ok (.iastore, 1) := by decide +kernel
theorem d_X12_stand_84 : decode (yB m_X12_stand) 84 = .ok (.aload_n 0, 1) := by decide +kernel
theorem d_X12_stand_85 : decode (yB m_X12_stand) 85 = .ok (.getfield 67, 3) := by decide +kernel
theorem d_X12_stand_88 : decode (yB m_X12_stand) 88 = .ok (.aload_n 0, 1) := by decide +kernel
theorem d_X12_stand_89 : decode (yB m_X12_stand) 89 = .ok (.getfield 236, 3) := by decide +kernel
theorem d_X12_stand_92 : decode (yB m_X12_stand) 92 = .ok (.aaload, 1) := by decide +kernel
theorem d_X12_stand_93 : decode (yB m_X12_stand) 93 = .ok (.iconst 1, 1) := by decide +kernel
theorem d_X12_stand_94 : decode (yB m_X12_stand) 94 = .ok (.iload_n 2, 1) := by decide +kernel
theorem d_X12_stand_95 : decode (yB m_X12_stand) 95 = .ok (.iastore, 1) := by decide +kernel
theorem d_X12_stand_96 : decode (yB m_X12_stand) 96 = .ok (.aload_n 0, 1) := by decide +kernel
theorem d_X12_stand_97 : decode (yB m_X12_stand) 97 = .ok (.getfield 67, 3) := by decide +kernel
theorem d_X12_stand_100 : decode (yB m_X12_stand) 100 = .ok (.aload_n 0, 1) := by decide +kernel
theorem d_X12_stand_101 : decode (yB m_X12_stand) 101 = .ok (.getfield 236, 3) := by decide +kernel
theorem d_X12_stand_104 : decode (yB m_X12_stand) 104 = .ok (.aaload, 1) := by decide +kernel
theorem d_X12_stand_105 : decode (yB m_X12_stand) 105 = .ok (.iconst 2, 1) := by decide +kernel
theorem d_X12_stand_106 : decode (yB m_X12_stand) 106 = .ok (.iload_n 3, 1) := by decide +kernel
theorem d_X12_stand_107 : decode (yB m_X12_stand) 107 = .ok (.iastore, 1) := by decide +kernel
theorem d_X12_stand_108 : decode (yB m_X12_stand) 108 = .ok (.aload_n 0, 1) := by decide +kernel
theorem d_X12_stand_109 : decode (yB m_X12_stand) 109 = .ok (.dup, 1) := by decide +kernel
theorem d_X12_stand_110 : decode (yB m_X12_stand) 110 = .ok (.getfield 236, 3) := by decide +kernel
theorem d_X12_stand_113 : decode (yB m_X12_stand) 113 = .ok (.iconst 1, 1) := by decide +kernel
theorem d_X12_stand_114 : decode (yB m_X12_stand) 114 = .ok (.iadd, 1) := by decide +kernel
theorem d_X12_stand_115 : decode (yB m_X12_stand) 115 = .ok (.putfield 236, 3) := by decide +kernel
theorem d_X12_stand_118 : decode (yB m_X12_stand) 118 = .ok (.aload_n 0, 1) := by decide +kernel
theorem d_X12_stand_119 : decode (yB m_X12_stand) 119 = .ok (.getfield 236, 3) := by decide +kernel
theorem d_X12_stand_122 : decode (yB m_X12_stand) 122 = .ok (.ireturn, 1) := by decide +kernel
def fn_X12_stand_52 (v1 : Int32) (v2 : Int32) (v3 : Int32) (w1 : Int32) (D : zD) : Option (Int32 × zD) := (fn_X12_bad w1 (2 : Int32) D).bind fun q8 => (if q8.1 = 0 then ((if (gI q8.2 102 36) = (8 : Int32) then ((some ((-1 : Int32), q8.2))) else (zck (gI q8.2 102 36) 8 <| zlet (sI q8.2 (170 + (gI q8.2 102 36).toNatClampNeg) 0 v1) fun D12 => zck (gI D12 102 36) 8 <| zlet (sI D12 (170 + (gI D12 102 36).toNatClampNeg) 1 v2) fun D14 => zck (gI D14 102 36) 8 <| zlet (sI D14 (170 + (gI D14 102 36).toNatClampNeg) 2 v3) fun D16 => zlet (sI D16 102 36 ((gI D16 102 36) + (1 : Int32))) fun D17 => (some ((gI D17 102 36), D17))))) else ((some ((0 : Int32), q8.2))))
def fn_X12_stand_47 (v1 : Int32) (v2 : Int32) (v3 : Int32) (D : zD) : Option (Int32 × zD) := (fn_X12_stand_52 v1 v2 v3 (1 : Int32) D)
def fn_X12_stand_19 (v1 : Int32) (v2 : Int32) (v3 : Int32) (w1 : Int32) (D : zD) : Option (Int32 × zD) := (fn_X12_bad w1 (1 : Int32) D).bind fun q4 => (if q4.1 = 0 then ((fn_X12_in v2 (0 : Int32) (99 : Int32)).bind fun x6 => (if x6 = 0 then ((fn_X12_stand_47 v1 v2 v3 q4.2)) else ((fn_X12_in v3 (1 : Int32) (99 : Int32)).bind fun x18 => (if x18 = 0 then ((fn_X12_stand_47 v1 v2 v3 q4.2)) else ((fn_X12_stand_52 v1 v2 v3 (0 : Int32) q4.2)))))) else ((some ((0 : Int32), q4.2))))
def fn_X12_stand (v1 : Int32) (v2 : Int32) (v3 : Int32) (D : zD) : Option (Int32 × zD) := zlet (sI D 102 0 (0 : Int32)) fun D1 => (fn_X12_isSign v1 D1).bind fun x2 => (if x2 = 0 then ((fn_X12_stand_19 v1 v2 v3 (1 : Int32) D1)) else ((fn_X12_stand_19 v1 v2 v3 (0 : Int32) D1)))
theorem s_X12_stand_52 {X : zX} {Sh : zSh} {d : Nat} (hst : (zl X).stackTraces = false) (h0 : zSh0 Sh) (hd : 2 ≤ d) {v1 : Int32} {v2 : Int32} {v3 : Int32} (w1 : Int32) (D : zD)  : Rn X m_X12_stand (d + 1) 52 [(0, .ref 102), (1, .int v1), (2, .int v2), (3, .int v3)] [.int w1, .ref 102] (Sh, D) ((oI Sh) (fn_X12_stand_52 v1 v2 v3 w1 D)) := by
  rw [fn_X12_stand_52]
  refine r_iconst (pc := 52) (2 : Int32) d_X12_stand_52 rfl ?_
  refine q_cI (f := (oI Sh)) (av := [.ref 102, .int w1, .int (2 : Int32)]) (st := []) (z_runV ck_X12_bad rfl ml_X12_214 ci_X12_bad cv_X12_bad (K_102 h0) (ci := 12) rfl rfl (Nat.le_of_ble_eq_true rfl) d_X12_stand_53) (s_X12_bad hst h0 (by omega)) kp_I (fun q8 _ => ?_)
  refine r_if_eq (f := (oI Sh)) (pc := 56) 61 d_X12_stand_56 (by decide) (fun c9 => ?_) (fun c9 => ?_)
  · refine r_aload_n (pc := 61) 0 d_X12_stand_61 rfl rfl ?_
    refine q_gI (pc := 62) g_X12_236 (K_102 h0) rfl d_X12_stand_62 ?_
    refine r_bipush (pc := 65) (8 : Int32) d_X12_stand_65 rfl ?_
    refine r_icmp_ne (f := (oI Sh)) (pc := 67) 72 d_X12_stand_67 (by decide) (fun c10 => ?_) (fun c10 => ?_)
    · refine r_aload_n (pc := 72) 0 d_X12_stand_72 rfl rfl ?_
      refine r_getR (pc := 73) g_X12_67 (K_102 h0) rfl (R_102_40 h0) d_X12_stand_73 ?_
      refine r_aload_n (pc := 76) 0 d_X12_stand_76 rfl rfl ?_
      refine q_gI (pc := 77) g_X12_236 (K_102 h0) rfl d_X12_stand_77 ?_
      refine r_ck (f := (oI Sh)) rfl (fun hc11 => ?_)
      refine q_aald (pc := 80) (j := (gI q8.2 102 36).toNatClampNeg) (K_169 h0) (Or.inl ⟨rfl, rfl⟩) hc11 rfl (RW_169 h0 _ (z_lt hc11)) d_X12_stand_80 ?_
      refine r_iconst (pc := 81) (0 : Int32) d_X12_stand_81 rfl ?_
      refine r_iload_n (pc := 82) 1 d_X12_stand_82 rfl rfl ?_
      refine q_iast (pc := 83) (j := 0) (RK_169 h0 _ (z_lt hc11)) (by unfold vp_in; decide) rfl  d_X12_stand_83 ?_
      refine r_letD (f := (oI Sh)) (fun D12 => ?_)
      refine r_aload_n (pc := 84) 0 d_X12_stand_84 rfl rfl ?_
      refine r_getR (pc := 85) g_X12_67 (K_102 h0) rfl (R_102_40 h0) d_X12_stand_85 ?_
      refine r_aload_n (pc := 88) 0 d_X12_stand_88 rfl rfl ?_
      refine q_gI (pc := 89) g_X12_236 (K_102 h0) rfl d_X12_stand_89 ?_
      refine r_ck (f := (oI Sh)) rfl (fun hc13 => ?_)
      refine q_aald (pc := 92) (j := (gI D12 102 36).toNatClampNeg) (K_169 h0) (Or.inl ⟨rfl, rfl⟩) hc13 rfl (RW_169 h0 _ (z_lt hc13)) d_X12_stand_92 ?_
      refine r_iconst (pc := 93) (1 : Int32) d_X12_stand_93 rfl ?_
      refine r_iload_n (pc := 94) 2 d_X12_stand_94 rfl rfl ?_
      refine q_iast (pc := 95) (j := 1) (RK_169 h0 _ (z_lt hc13)) (by unfold vp_in; decide) rfl  d_X12_stand_95 ?_
      refine r_letD (f := (oI Sh)) (fun D14 => ?_)
      refine r_aload_n (pc := 96) 0 d_X12_stand_96 rfl rfl ?_
      refine r_getR (pc := 97) g_X12_67 (K_102 h0) rfl (R_102_40 h0) d_X12_stand_97 ?_
      refine r_aload_n (pc := 100) 0 d_X12_stand_100 rfl rfl ?_
      refine q_gI (pc := 101) g_X12_236 (K_102 h0) rfl d_X12_stand_101 ?_
      refine r_ck (f := (oI Sh)) rfl (fun hc15 => ?_)
      refine q_aald (pc := 104) (j := (gI D14 102 36).toNatClampNeg) (K_169 h0) (Or.inl ⟨rfl, rfl⟩) hc15 rfl (RW_169 h0 _ (z_lt hc15)) d_X12_stand_104 ?_
      refine r_iconst (pc := 105) (2 : Int32) d_X12_stand_105 rfl ?_
      refine r_iload_n (pc := 106) 3 d_X12_stand_106 rfl rfl ?_
      refine q_iast (pc := 107) (j := 2) (RK_169 h0 _ (z_lt hc15)) (by unfold vp_in; decide) rfl  d_X12_stand_107 ?_
      refine r_letD (f := (oI Sh)) (fun D16 => ?_)
      refine r_aload_n (pc := 108) 0 d_X12_stand_108 rfl rfl ?_
      refine r_dup (pc := 109) d_X12_stand_109 rfl ?_
      refine q_gI (pc := 110) g_X12_236 (K_102 h0) rfl d_X12_stand_110 ?_
      refine r_iconst (pc := 113) (1 : Int32) d_X12_stand_113 rfl ?_
      refine r_iadd (pc := 114) d_X12_stand_114 ?_
      refine r_putI (pc := 115) p_X12_236 (K_102 h0) rfl (Or.inl rfl) d_X12_stand_115 ?_
      refine r_letD (f := (oI Sh)) (fun D17 => ?_)
      refine r_aload_n (pc := 118) 0 d_X12_stand_118 rfl rfl ?_
      refine q_gI (pc := 119) g_X12_236 (K_102 h0) rfl d_X12_stand_119 ?_
      exact r_iret (pc := 122) rfl d_X12_stand_122
    · refine r_iconst (pc := 70) (-1 : Int32) d_X12_stand_70 rfl ?_
      exact r_iret (pc := 71) rfl d_X12_stand_71
  · refine r_iconst (pc := 59) (0 : Int32) d_X12_stand_59 rfl ?_
    exact r_iret (pc := 60) rfl d_X12_stand_60
theorem s_X12_stand_47 {X : zX} {Sh : zSh} {d : Nat} (hst : (zl X).stackTraces = false) (h0 : zSh0 Sh) (hd : 2 ≤ d) {v1 : Int32} {v2 : Int32} {v3 : Int32}  (D : zD)  : Rn X m_X12_stand (d + 1) 47 [(0, .ref 102), (1, .int v1), (2, .int v2), (3, .int v3)] [.ref 102] (Sh, D) ((oI Sh) (fn_X12_stand_47 v1 v2 v3 D)) := by
  rw [fn_X12_stand_47]
  refine r_iconst (pc := 47) (1 : Int32) d_X12_stand_47 rfl ?_
  refine r_goto (pc := 48) 52 d_X12_stand_48 (by decide) ?_
  refine r_pick [0, 1, 2, 3] (ls' := [(0, .ref 102), (1, .int v1), (2, .int v2), (3, .int v3)]) rfl ?_
  exact s_X12_stand_52 hst h0 hd (1 : Int32) D
theorem s_X12_stand_19 {X : zX} {Sh : zSh} {d : Nat} (hst : (zl X).stackTraces = false) (h0 : zSh0 Sh) (hd : 2 ≤ d) {v1 : Int32} {v2 : Int32} {v3 : Int32} (w1 : Int32) (D : zD)  : Rn X m_X12_stand (d + 1) 19 [(0, .ref 102), (1, .int v1), (2, .int v2), (3, .int v3)] [.int w1, .ref 102] (Sh, D) ((oI Sh) (fn_X12_stand_19 v1 v2 v3 w1 D)) := by
  rw [fn_X12_stand_19]
  refine r_iconst (pc := 19) (1 : Int32) d_X12_stand_19 rfl ?_
  refine q_cI (f := (oI Sh)) (av := [.ref 102, .int w1, .int (1 : Int32)]) (st := []) (z_runV ck_X12_bad rfl ml_X12_214 ci_X12_bad cv_X12_bad (K_102 h0) (ci := 12) rfl rfl (Nat.le_of_ble_eq_true rfl) d_X12_stand_20) (s_X12_bad hst h0 (by omega)) kp_I (fun q4 _ => ?_)
  refine r_if_ne (f := (oI Sh)) (pc := 23) 59 d_X12_stand_23 (by decide) (fun c5 => ?_) (fun c5 => ?_)
  · refine r_iconst (pc := 59) (0 : Int32) d_X12_stand_59 rfl ?_
    exact r_iret (pc := 60) rfl d_X12_stand_60
  · refine r_aload_n (pc := 26) 0 d_X12_stand_26 rfl rfl ?_
    refine r_iload_n (pc := 27) 2 d_X12_stand_27 rfl rfl ?_
    refine r_iconst (pc := 28) (0 : Int32) d_X12_stand_28 rfl ?_
    refine r_bipush (pc := 29) (99 : Int32) d_X12_stand_29 rfl ?_
    refine q_cP (f := (oI Sh)) (av := [.int v2, .int (0 : Int32), .int (99 : Int32)]) (st := [.ref 102]) (z_runS ck_X12_in rfl ml_X12_147 cs_X12_in rfl (Nat.le_of_ble_eq_true rfl) d_X12_stand_31) (s_X12_in hst h0 (by omega)) kp_I (fun x6 _ => ?_)
    refine r_if_eq (f := (oI Sh)) (pc := 34) 47 d_X12_stand_34 (by decide) (fun c7 => ?_) (fun c7 => ?_)
    · refine r_pick [0, 1, 2, 3] (ls' := [(0, .ref 102), (1, .int v1), (2, .int v2), (3, .int v3)]) rfl ?_
      exact s_X12_stand_47 hst h0 hd q4.2
    · refine r_iload_n (pc := 37) 3 d_X12_stand_37 rfl rfl ?_
      refine r_iconst (pc := 38) (1 : Int32) d_X12_stand_38 rfl ?_
      refine r_bipush (pc := 39) (99 : Int32) d_X12_stand_39 rfl ?_
      refine q_cP (f := (oI Sh)) (av := [.int v3, .int (1 : Int32), .int (99 : Int32)]) (st := [.ref 102]) (z_runS ck_X12_in rfl ml_X12_147 cs_X12_in rfl (Nat.le_of_ble_eq_true rfl) d_X12_stand_41) (s_X12_in hst h0 (by omega)) kp_I (fun x18 _ => ?_)
      refine r_if_ne (f := (oI Sh)) (pc := 44) 51 d_X12_stand_44 (by decide) (fun c19 => ?_) (fun c19 => ?_)
      · refine r_iconst (pc := 51) (0 : Int32) d_X12_stand_51 rfl ?_
        refine r_pick [0, 1, 2, 3] (ls' := [(0, .ref 102), (1, .int v1), (2, .int v2), (3, .int v3)]) rfl ?_
        exact s_X12_stand_52 hst h0 hd (0 : Int32) q4.2
      · refine r_pick [0, 1, 2, 3] (ls' := [(0, .ref 102), (1, .int v1), (2, .int v2), (3, .int v3)]) rfl ?_
        exact s_X12_stand_47 hst h0 hd q4.2
theorem s_X12_stand {X : zX} {Sh : zSh} {d : Nat} (hst : (zl X).stackTraces = false) (h0 : zSh0 Sh) (hd : 3 ≤ d) {v1 : Int32} {v2 : Int32} {v3 : Int32} {D : zD} : Sd X m_X12_stand d [.ref 102, .int v1, .int v2, .int v3] (Sh, D) ((oI Sh) (fn_X12_stand v1 v2 v3 D)) := by
  obtain ⟨d, rfl⟩ : ∃ e, d = e + 1 := ⟨d - 1, by omega⟩
  replace hd : 2 ≤ d := by omega
  refine z_body ck_X12_stand rfl (Nat.le_of_ble_eq_true rfl) rfl hst ?_
  rw [fn_X12_stand]
  show Rn X m_X12_stand (d + 1) 0 [(0, .ref 102), (1, .int v1), (2, .int v2), (3, .int v3)] [] (Sh, D) _
  refine r_aload_n (pc := 0) 0 d_X12_stand_0 rfl rfl ?_
  refine r_iconst (pc := 1) (0 : Int32) d_X12_stand_1 rfl ?_
  refine r_putI (pc := 2) p_X12_113 (K_102 h0) rfl (Or.inl rfl) d_X12_stand_2 ?_
  refine r_letD (f := (oI Sh)) (fun D1 => ?_)
  refine r_aload_n (pc := 5) 0 d_X12_stand_5 rfl rfl ?_
  refine r_aload_n (pc := 6) 0 d_X12_stand_6 rfl rfl ?_
  refine r_iload_n (pc := 7) 1 d_X12_stand_7 rfl rfl ?_
  refine q_cP (f := (oI Sh)) (av := [.ref 102, .int v1]) (st := [.ref 102]) (z_runV ck_X12_isSign rfl ml_X12_296 ci_X12_isSign cv_X12_isSign (K_102 h0) (ci := 12) rfl rfl (Nat.le_of_ble_eq_true rfl) d_X12_stand_8) (s_X12_isSign hst h0 (by omega)) kp_I (fun x2 _ => ?_)
  refine r_if_ne (f := (oI Sh)) (pc := 11) 18 d_X12_stand_11 (by decide) (fun c3 => ?_) (fun c3 => ?_)
  · refine r_iconst (pc := 18) (0 : Int32) d_X12_stand_18 rfl ?_
    refine r_pick [0, 1, 2, 3] (ls' := [(0, .ref 102), (1, .int v1), (2, .int v2), (3, .int v3)]) rfl ?_
    exact s_X12_stand_19 hst h0 hd (0 : Int32) D1
  · refine r_iconst (pc := 14) (1 : Int32) d_X12_stand_14 rfl ?_
    refine r_goto (pc := 15) 19 d_X12_stand_15 (by decide) ?_
    refine r_pick [0, 1, 2, 3] (ls' := [(0, .ref 102), (1, .int v1), (2, .int v2), (3, .int v3)]) rfl ?_
    exact s_X12_stand_19 hst h0 hd (1 : Int32) D1
/-! CoveredSignsModel.leave -/
theorem d_X12_leave_0 : decode (yB m_X12_leave) 0 = .ok (.aload_n 0, 1) := by decide +kernel
theorem d_X12_leave_1 : decode (yB m_X12_leave) 1 = .ok (.iconst 0, 1) := by decide +kernel
theorem d_X12_leave_2 : decode (yB m_X12_leave) 2 = .ok (.putfield 113, 3) := by decide +kernel
theorem d_X12_leave_5 : decode (yB m_X12_leave) 5 = .ok (.aload_n 0, 1) := by decide +kernel
theorem d_X12_leave_6 : decode (yB m_X12_leave) 6 = .ok (.getfield 236, 3) := by decide +kernel
theorem d_X12_leave_9 : decode (yB m_X12_leave) 9 = .ok (.istore_n 1, 1) := by decide +kernel
theorem d_X12_leave_10 : decode (yB m_X12_leave) 10 = .ok (.aload_n 0, 1) := by decide +kernel
theorem d_X12_leave_11 : decode (yB m_X12_leave) 11 = .ok (.iconst 0, 1) := by decide +kernel
theorem d_X12_leave_12 : decode (yB m_X12_leave) 12 = .ok (.putfield 236, 3) := by decide +kernel
theorem d_X12_leave_15 : decode (yB m_X12_leave) 15 = .ok (.iload_n 1, 1) := by decide +kernel
theorem d_X12_leave_16 : decode (yB m_X12_leave) 16 = .ok (.ireturn, 1) := by decide +kernel
def fn_X12_leave (D : zD) : Option (Int32 × zD) := zlet (sI D 102 0 (0 : Int32)) fun D1 => zlet (gI D1 102 36) fun x2 => zlet (sI D1 102 36 (0 : Int32)) fun D3 => (some (x2, D3))
theorem s_X12_leave {X : zX} {Sh : zSh} {d : Nat} (hst : (zl X).stackTraces = false) (h0 : zSh0 Sh) (hd : 1 ≤ d)  {D : zD} : Sd X m_X12_leave d [.ref 102] (Sh, D) ((oI Sh) (fn_X12_leave D)) := by
  obtain ⟨d, rfl⟩ : ∃ e, d = e + 1 := ⟨d - 1, by omega⟩
  replace hd : 0 ≤ d := by omega
  refine z_body ck_X12_leave rfl (Nat.le_of_ble_eq_true rfl) rfl hst ?_
  rw [fn_X12_leave]
  show Rn X m_X12_leave (d + 1) 0 [(0, .ref 102)] [] (Sh, D) _
  refine r_aload_n (pc := 0) 0 d_X12_leave_0 rfl rfl ?_
  refine r_iconst (pc := 1) (0 : Int32) d_X12_leave_1 rfl ?_
  refine r_putI (pc := 2) p_X12_113 (K_102 h0) rfl (Or.inl rfl) d_X12_leave_2 ?_
  refine r_letD (f := (oI Sh)) (fun D1 => ?_)
  refine r_aload_n (pc := 5) 0 d_X12_leave_5 rfl rfl ?_
  refine q_gI (pc := 6) g_X12_236 (K_102 h0) rfl d_X12_leave_6 ?_
  refine r_leti (f := (oI Sh)) (fun x2 => ?_)
  refine r_istore_n (pc := 9) (ls' := [(1, .int x2), (0, .ref 102)]) d_X12_leave_9 rfl (Nat.le_of_ble_eq_true rfl) rfl ?_
  refine r_aload_n (pc := 10) 1 d_X12_leave_10 rfl rfl ?_
  refine r_iconst (pc := 11) (0 : Int32) d_X12_leave_11 rfl ?_
  refine r_putI (pc := 12) p_X12_236 (K_102 h0) rfl (Or.inl rfl) d_X12_leave_12 ?_
  refine r_letD (f := (oI Sh)) (fun D3 => ?_)
  refine r_iload_n (pc := 15) 0 d_X12_leave_15 rfl rfl ?_
  exact r_iret (pc := 16) rfl d_X12_leave_16
/-! CoveredSignsModel.isSeen -/
theorem d_X12_isSeen_0 : decode (yB m_X12_isSeen) 0 = .ok (.iconst 2, 1) := by decide +kernel
theorem d_X12_isSeen_1 : decode (yB m_X12_isSeen) 1 = .ok (.aload_n 0, 1) := by decide +kernel
theorem d_X12_isSeen_2 : decode (yB m_X12_isSeen) 2 = .ok (.getfield 67, 3) := by decide +kernel
theorem d_X12_isSeen_5 : decode (yB m_X12_isSeen) 5 = .ok (.iload_n 1, 1) := by decide +kernel
theorem d_X12_isSeen_6 : decode (yB m_X12_isSeen) 6 = .ok (.aaload, 1) := by decide +kernel
theorem d_X12_isSeen_7 : decode (yB m_X12_isSeen) 7 = .ok (.iconst 1, 1) := by decide +kernel
theorem d_X12_isSeen_8 : decode (yB m_X12_isSeen) 8 = .ok (.iaload, 1) := by decide +kernel
theorem d_X12_isSeen_9 : decode (yB m_X12_isSeen) 9 = .ok (.iload_n 2, 1) := by decide +kernel
theorem d_X12_isSeen_10 : decode (yB m_X12_isSeen) 10 = .ok (.iadd, 1) := by decide +kernel
theorem d_X12_isSeen_11 : decode (yB m_X12_isSeen) 11 = .ok (.imul, 1) := by decide +kernel
theorem d_X12_isSeen_12 : decode (yB m_X12_isSeen) 12 = .ok (.iconst 1, 1) := by decide +kernel
theorem d_X12_isSeen_13 : decode (yB m_X12_isSeen) 13 = .ok (.iadd, 1) := by decide +kernel
theorem d_X12_isSeen_14 : decode (yB m_X12_isSeen) 14 = .ok (.istore 4, 2) := by decide +kernel
theorem d_X12_isSeen_16 : decode (yB m_X12_isSeen) 16 = .ok (.aload_n 0, 1) := by decide +kernel
theorem d_X12_isSeen_17 : decode (yB m_X12_isSeen) 17 = .ok (.getfield 67, 3) := by decide +kernel
theorem d_X12_isSeen_20 : decode (yB m_X12_isSeen) 20 = .ok (.iload_n 1, 1) := by decide +kernel
theorem d_X12_isSeen_21 : decode (yB m_X12_isSeen) 21 = .ok (.aaload, 1) := by decide +kernel
theorem d_X12_isSeen_22 : decode (yB m_X12_isSeen) 22 = .ok (.iconst 2, 1) := by decide +kernel
theorem d_X12_isSeen_23 : decode (yB m_X12_isSeen) 23 = .ok (.iaload, 1) := by decide +kernel
theorem d_X12_isSeen_24 : decode (yB m_X12_isSeen) 24 = .ok (.istore 5, 2) := by decide +kernel
theorem d_X12_isSeen_26 : decode (yB m_X12_isSeen) 26 = .ok (.iconst 0, 1) := by decide +kernel
theorem d_X12_isSeen_27 : decode (yB m_X12_isSeen) 27 = .ok (.istore 6, 2) := by decide +kernel
theorem d_X12_isSeen_29 : decode (yB m_X12_isSeen) 29 = .ok (.iload 6, 2) := by decide +kernel
theorem d_X12_isSeen_31 : decode (yB m_X12_isSeen) 31 = .ok (.aload_n 0, 1) := by decide +kernel
theorem d_X12_isSeen_32 : decode (yB m_X12_isSeen) 32 = .ok (.getfield 236, 3) := by decide +kernel
theorem d_X12_isSeen_35 : decode (yB m_X12_isSeen) 35 = .ok (.if_icmp .ge 93, 3) := by decide +kernel
theorem d_X12_isSeen_38 : decode (yB m_X12_isSeen) 38 = .ok (.aload_n 0, 1) := by decide +kernel
theorem d_X12_isSeen_39 : decode (yB m_X12_isSeen) 39 = .ok (.getfield 67, 3) := by decide +kernel
theorem d_X12_isSeen_42 : decode (yB m_X12_isSeen) 42 = .ok (.iload 6, 2) := by decide +kernel
theorem d_X12_isSeen_44 : decode (yB m_X12_isSeen) 44 = .ok (.aaload, 1) := by decide +kernel
theorem d_X12_isSeen_45 : decode (yB m_X12_isSeen) 45 = .ok (.iconst 2, 1) := by decide +kernel
theorem d_X12_isSeen_46 : decode (yB m_X12_isSeen) 46 = .ok (.iaload, 1) := by decide +kernel
theorem d_X12_isSeen_47 : decode (yB m_X12_isSeen) 47 = .ok (.istore 7, 2) := by decide +kernel
theorem d_X12_isSeen_49 : decode (yB m_X12_isSeen) 49 = .ok (.iload 7, 2) := by decide +kernel
theorem d_X12_isSeen_51 : decode (yB m_X12_isSeen) 51 = .ok (.iload 5, 2) := by decide +kernel
theorem d_X12_isSeen_53 : decode (yB m_X12_isSeen) 53 = .ok (.if_icmp .lt 6, 3) := by decide +kernel
theorem d_X12_isSeen_56 : decode (yB m_X12_isSeen) 56 = .ok (.goto 66, 3) := by decide +kernel
theorem d_X12_isSeen_59 : decode (yB m_X12_isSeen) 59 = .ok (.iconst 2, 1) := by decide +kernel
theorem d_X12_isSeen_60 : decode (yB m_X12_isSeen) 60 = .ok (.iload_n 3, 1) := by decide +kernel
theorem d_X12_isSeen_61 : decode (yB m_X12_isSeen) 61 = .ok (.imul, 1) := by decide +kernel
theorem d_X12_isSeen_62 : decode (yB m_X12_isSeen) 62 = .ok (.iload 5, 2) := by decide +kernel
theorem d_X12_isSeen_64 : decode (yB m_X12_isSeen) 64 = .ok (.imul, 1) := by decide +kernel
theorem d_X12_isSeen_65 : decode (yB m_X12_isSeen) 65 = .ok (.iload 4, 2) := by decide +kernel
theorem d_X12_isSeen_67 : decode (yB m_X12_isSeen) 67 = .ok (.iconst 2, 1) := by decide +kernel
theorem d_X12_isSeen_68 : decode (yB m_X12_isSeen) 68 = .ok (.iload_n 3, 1) := by decide +kernel
theorem d_X12_isSeen_69 : decode (yB m_X12_isSeen) 69 = .ok (.imul, 1) := by decide +kernel
theorem d_X12_isSeen_70 : decode (yB m_X12_isSeen) 70 = .ok (.isub, 1) := by decide +kernel
theorem d_X12_isSeen_71 : decode (yB m_X12_isSeen) 71 = .ok (.iload 7, 2) := by decide +kernel
theorem d_X12_isSeen_73 : decode (yB m_X12_isSeen) 73 = .ok (.imul, 1) := by decide +kernel
theorem d_X12_isSeen_74 : decode (yB m_X12_isSeen) 74 = .ok (.iadd, 1) := by decide +kernel
theorem d_X12_isSeen_75 : decode (yB m_X12_isSeen) 75 = .ok (.istore 8, 2) := by decide +kernel
theorem d_X12_isSeen_77 : decode (yB m_X12_isSeen) 77 = .ok (.iload 8, 2) := by decide +kernel
theorem d_X12_isSeen_79 : decode (yB m_X12_isSeen) 79 = .ok (.iconst 2, 1) := by decide +kernel
theorem d_X12_isSeen_80 : decode (yB m_X12_isSeen) 80 = .ok (.aload_n 0, 1) := by decide +kernel
theorem d_X12_isSeen_81 : decode (yB m_X12_isSeen) 81 = .ok (.getfield 67, 3) := by decide +kernel
theorem d_X12_isSeen_84 : decode (yB m_X12_isSeen) 84 = .ok (.iload 6, 2) := by decide +kernel
theorem d_X12_isSeen_86 : decode (yB m_X12_isSeen) 86 = .ok (.aaload, 1) := by decide +kernel
theorem d_X12_isSeen_87 : decode (yB m_X12_isSeen) 87 = .ok (.iconst 1, 1) := by decide +kernel
theorem d_X12_isSeen_88 : decode (yB m_X12_isSeen) 88 = .ok (.iaload, 1) := by decide +kernel
theorem d_X12_isSeen_89 : decode (yB m_X12_isSeen) 89 = .ok (.imul, 1) := by decide +kernel
theorem d_X12_isSeen_90 : decode (yB m_X12_isSeen) 90 = .ok (.iload 5, 2) := by decide +kernel
theorem d_X12_isSeen_92 : decode (yB m_X12_isSeen) 92 = .ok (.imul, 1) := by decide +kernel
theorem d_X12_isSeen_93 : decode (yB m_X12_isSeen) 93 = .ok (.if_icmp .lt 29, 3) := by decide +kernel
theorem d_X12_isSeen_96 : decode (yB m_X12_isSeen) 96 = .ok (.iload 8, 2) := by decide +kernel
theorem d_X12_isSeen_98 : decode (yB m_X12_isSeen) 98 = .ok (.iconst 2, 1) := by decide +kernel
theorem d_X12_isSeen_99 : decode (yB m_X12_isSeen) 99 = .ok (.aload_n 0, 1) := by decide +kernel
theorem d_X12_isSeen_100 : decode (yB m_X12_isSeen) 100 = .ok (.getfield 67, 3) := by decide +kernel
theorem d_X12_isSeen_103 : decode (yB m_X12_isSeen) 103 = .ok (.iload 6, 2) := by decide +kernel
theorem d_X12_isSeen_105 : decode (yB m_X12_isSeen) 105 = .ok (.aaload, 1) := by decide +kernel
theorem d_X12_isSeen_106 : decode (yB m_X12_isSeen) 106 = .ok (.iconst 1, 1) := by decide +kernel
theorem d_X12_isSeen_107 : decode (yB m_X12_isSeen) 107 = .ok (.iaload, 1) := by decide +kernel
theorem d_X12_isSeen_108 : decode (yB m_X12_isSeen) 108 = .ok (.aload_n 0, 1) := by decide +kernel
theorem d_X12_isSeen_109 : decode (yB m_X12_isSeen) 109 = .ok (.getfield 17, 3) := by decide +kernel
theorem d_X12_isSeen_112 : decode (yB m_X12_isSeen) 112 = .ok (.iadd, 1) := by decide +kernel
theorem d_X12_isSeen_113 : decode (yB m_X12_isSeen) 113 = .ok (.imul, 1) := by decide +kernel
theorem d_X12_isSeen_114 : decode (yB m_X12_isSeen) 114 = .ok (.iload 5, 2) := by decide +kernel
theorem d_X12_isSeen_116 : decode (yB m_X12_isSeen) 116 = .ok (.imul, 1) := by decide +kernel
theorem d_X12_isSeen_117 : decode (yB m_X12_isSeen) 117 = .ok (.if_icmp .gt 5, 3) := by decide +kernel
theorem d_X12_isSeen_120 : decode (yB m_X12_isSeen) 120 = .ok (.iconst 0, 1) := by decide +kernel
theorem d_X12_isSeen_121 : decode (yB m_X12_isSeen) 121 = .ok (.ireturn, 1) := by decide +kernel
theorem d_X12_isSeen_122 : decode (yB m_X12_isSeen) 122 = .ok (.iinc 6 1, 3) := by decide +kernel
theorem d_X12_isSeen_125 : decode (yB m_X12_isSeen) 125 = .ok (.goto (-96), 3) := by decide +kernel
theorem d_X12_isSeen_128 : decode (yB m_X12_isSeen) 128 = .ok (.iconst 1, 1) := by decide +kernel
theorem d_X12_isSeen_129 : decode (yB m_X12_isSeen) 129 = .ok (.ireturn, 1) := by decide +kernel
def fn_X12_isSeen_29 (v1 : Int32) (v2 : Int32) (v3 : Int32) (D : zD) : Nat → Int32 → Int32 → Int32 → Option Int32
  | 0, _, _, _ => none
  | n + 1, v4, v5, v6 => (if (gI D 102 36) ≤ v6 then ((some (1 : Int32))) else (zck v6 8 <| zlet (gI D (170 + v6.toNatClampNeg) 2) fun x7 => (if x7 < v5 then (zlet ((((2 : Int32) * v3) * v5) + ((v4 - ((2 : Int32) * v3)) * x7)) fun x9 => zck v6 8 <| (if x9 < (((2 : Int32) * (gI D (170 + v6.toNatClampNeg) 1)) * v5) then (((fn_X12_isSeen_29 v1 v2 v3 D n) v4 v5 (v6 + (1 : Int32)))) else (zck v6 8 <| (if (((2 : Int32) * ((gI D (170 + v6.toNatClampNeg) 1) + (gI D 102 14))) * v5) < x9 then (((fn_X12_isSeen_29 v1 v2 v3 D n) v4 v5 (v6 + (1 : Int32)))) else ((some (0 : Int32))))))) else (((fn_X12_isSeen_29 v1 v2 v3 D n) v4 v5 (v6 + (1 : Int32)))))))
def fn_X12_isSeen (v1 : Int32) (v2 : Int32) (v3 : Int32) (D : zD) : Option Int32 := zck v1 8 <| zlet (((2 : Int32) * ((gI D (170 + v1.toNatClampNeg) 1) + v2)) + (1 : Int32)) fun x2 => zck v1 8 <| zlet (gI D (170 + v1.toNatClampNeg) 2) fun x4 => (fn_X12_isSeen_29 v1 v2 v3 D zFU x2 x4 (0 : Int32))
theorem s_X12_isSeen_29 {X : zX} {Sh : zSh} {d : Nat} (hst : (zl X).stackTraces = false) (h0 : zSh0 Sh) (hd : 0 ≤ d) {v1 : Int32} {v2 : Int32} {v3 : Int32} (D : zD) : ∀ (n : Nat) (v4 : Int32) (v5 : Int32) (v6 : Int32) , Rn X m_X12_isSeen (d + 1) 29 [(0, .ref 102), (3, .int v3), (4, .int v4), (5, .int v5), (6, .int v6)] [] (Sh, D) ((oP Sh D) (fn_X12_isSeen_29 v1 v2 v3 D n v4 v5 v6)) := by
  intro n
  induction n with
  | zero => intro v4 v5 v6; exact Rn_none rfl
  | succ n hk29 =>
    intro v4 v5 v6
    rw [fn_X12_isSeen_29]
    refine r_iload (pc := 29) 4 d_X12_isSeen_29 rfl ?_
    refine r_aload_n (pc := 31) 0 d_X12_isSeen_31 rfl rfl ?_
    refine q_gI (pc := 32) g_X12_236 (K_102 h0) rfl d_X12_isSeen_32 ?_
    refine r_icmp_ge (f := (oP Sh D)) (pc := 35) 128 d_X12_isSeen_35 (by decide) (fun c5 => ?_) (fun c5 => ?_)
    · refine r_iconst (pc := 128) (1 : Int32) d_X12_isSeen_128 rfl ?_
      exact r_zret (pc := 129) rfl (by decide) d_X12_isSeen_129
    · refine r_aload_n (pc := 38) 0 d_X12_isSeen_38 rfl rfl ?_
      refine r_getR (pc := 39) g_X12_67 (K_102 h0) rfl (R_102_40 h0) d_X12_isSeen_39 ?_
      refine r_iload (pc := 42) 4 d_X12_isSeen_42 rfl ?_
      refine r_ck (f := (oP Sh D)) rfl (fun hc6 => ?_)
      refine q_aald (pc := 44) (j := v6.toNatClampNeg) (K_169 h0) (Or.inl ⟨rfl, rfl⟩) hc6 rfl (RW_169 h0 _ (z_lt hc6)) d_X12_isSeen_44 ?_
      refine r_iconst (pc := 45) (2 : Int32) d_X12_isSeen_45 rfl ?_
      refine q_iald (pc := 46) (j := 2) (RK_169 h0 _ (z_lt hc6)) (by unfold vp_in; decide) rfl d_X12_isSeen_46 ?_
      refine r_leti (f := (oP Sh D)) (fun x7 => ?_)
      refine r_istore (pc := 47) (ls' := [(7, .int x7), (0, .ref 102), (3, .int v3), (4, .int v4), (5, .int v5), (6, .int v6)]) d_X12_isSeen_47 (Nat.le_of_ble_eq_true rfl) rfl ?_
      refine r_iload (pc := 49) 0 d_X12_isSeen_49 rfl ?_
      refine r_iload (pc := 51) 4 d_X12_isSeen_51 rfl ?_
      refine r_icmp_lt (f := (oP Sh D)) (pc := 53) 59 d_X12_isSeen_53 (by decide) (fun c8 => ?_) (fun c8 => ?_)
      · refine r_iconst (pc := 59) (2 : Int32) d_X12_isSeen_59 rfl ?_
        refine r_iload_n (pc := 60) 2 d_X12_isSeen_60 rfl rfl ?_
        refine r_imul (pc := 61) d_X12_isSeen_61 ?_
        refine r_iload (pc := 62) 4 d_X12_isSeen_62 rfl ?_
        refine r_imul (pc := 64) d_X12_isSeen_64 ?_
        refine r_iload (pc := 65) 3 d_X12_isSeen_65 rfl ?_
        refine r_iconst (pc := 67) (2 : Int32) d_X12_isSeen_67 rfl ?_
        refine r_iload_n (pc := 68) 2 d_X12_isSeen_68 rfl rfl ?_
        refine r_imul (pc := 69) d_X12_isSeen_69 ?_
        refine r_isub (pc := 70) d_X12_isSeen_70 ?_
        refine r_iload (pc := 71) 0 d_X12_isSeen_71 rfl ?_
        refine r_imul (pc := 73) d_X12_isSeen_73 ?_
        refine r_iadd (pc := 74) d_X12_isSeen_74 ?_
        refine r_leti (f := (oP Sh D)) (fun x9 => ?_)
        refine r_istore (pc := 75) (ls' := [(8, .int x9), (7, .int x7), (0, .ref 102), (3, .int v3), (4, .int v4), (5, .int v5), (6, .int v6)]) d_X12_isSeen_75 (Nat.le_of_ble_eq_true rfl) rfl ?_
        refine r_iload (pc := 77) 0 d_X12_isSeen_77 rfl ?_
        refine r_iconst (pc := 79) (2 : Int32) d_X12_isSeen_79 rfl ?_
        refine r_aload_n (pc := 80) 2 d_X12_isSeen_80 rfl rfl ?_
        refine r_getR (pc := 81) g_X12_67 (K_102 h0) rfl (R_102_40 h0) d_X12_isSeen_81 ?_
        refine r_iload (pc := 84) 6 d_X12_isSeen_84 rfl ?_
        refine r_ck (f := (oP Sh D)) rfl (fun hc10 => ?_)
        refine q_aald (pc := 86) (j := v6.toNatClampNeg) (K_169 h0) (Or.inl ⟨rfl, rfl⟩) hc10 rfl (RW_169 h0 _ (z_lt hc10)) d_X12_isSeen_86 ?_
        refine r_iconst (pc := 87) (1 : Int32) d_X12_isSeen_87 rfl ?_
        refine q_iald (pc := 88) (j := 1) (RK_169 h0 _ (z_lt hc10)) (by unfold vp_in; decide) rfl d_X12_isSeen_88 ?_
        refine r_imul (pc := 89) d_X12_isSeen_89 ?_
        refine r_iload (pc := 90) 5 d_X12_isSeen_90 rfl ?_
        refine r_imul (pc := 92) d_X12_isSeen_92 ?_
        refine r_icmp_lt (f := (oP Sh D)) (pc := 93) 122 d_X12_isSeen_93 (by decide) (fun c11 => ?_) (fun c11 => ?_)
        · refine r_iinc (pc := 122) ((v6 + (1 : Int32))) 6 (ls' := [(6, .int (v6 + (1 : Int32))), (8, .int x9), (7, .int x7), (0, .ref 102), (3, .int v3), (4, .int v4), (5, .int v5)]) d_X12_isSeen_122 rfl rfl (Nat.le_of_ble_eq_true rfl) rfl ?_
          refine r_goto (pc := 125) 29 d_X12_isSeen_125 (by decide) ?_
          refine r_pick [3, 4, 5, 6, 0] (ls' := [(0, .ref 102), (3, .int v3), (4, .int v4), (5, .int v5), (6, .int (v6 + (1 : Int32)))]) rfl ?_
          exact hk29 v4 v5 (v6 + (1 : Int32)) 
        · refine r_iload (pc := 96) 0 d_X12_isSeen_96 rfl ?_
          refine r_iconst (pc := 98) (2 : Int32) d_X12_isSeen_98 rfl ?_
          refine r_aload_n (pc := 99) 2 d_X12_isSeen_99 rfl rfl ?_
          refine r_getR (pc := 100) g_X12_67 (K_102 h0) rfl (R_102_40 h0) d_X12_isSeen_100 ?_
          refine r_iload (pc := 103) 6 d_X12_isSeen_103 rfl ?_
          refine r_ck (f := (oP Sh D)) rfl (fun hc12 => ?_)
          refine q_aald (pc := 105) (j := v6.toNatClampNeg) (K_169 h0) (Or.inl ⟨rfl, rfl⟩) hc12 rfl (RW_169 h0 _ (z_lt hc12)) d_X12_isSeen_105 ?_
          refine r_iconst (pc := 106) (1 : Int32) d_X12_isSeen_106 rfl ?_
          refine q_iald (pc := 107) (j := 1) (RK_169 h0 _ (z_lt hc12)) (by unfold vp_in; decide) rfl d_X12_isSeen_107 ?_
          refine r_aload_n (pc := 108) 2 d_X12_isSeen_108 rfl rfl ?_
          refine q_gI (pc := 109) g_X12_17 (K_102 h0) rfl d_X12_isSeen_109 ?_
          refine r_iadd (pc := 112) d_X12_isSeen_112 ?_
          refine r_imul (pc := 113) d_X12_isSeen_113 ?_
          refine r_iload (pc := 114) 5 d_X12_isSeen_114 rfl ?_
          refine r_imul (pc := 116) d_X12_isSeen_116 ?_
          refine r_icmp_gt (f := (oP Sh D)) (pc := 117) 122 d_X12_isSeen_117 (by decide) (fun c13 => ?_) (fun c13 => ?_)
          · refine r_iinc (pc := 122) ((v6 + (1 : Int32))) 6 (ls' := [(6, .int (v6 + (1 : Int32))), (8, .int x9), (7, .int x7), (0, .ref 102), (3, .int v3), (4, .int v4), (5, .int v5)]) d_X12_isSeen_122 rfl rfl (Nat.le_of_ble_eq_true rfl) rfl ?_
            refine r_goto (pc := 125) 29 d_X12_isSeen_125 (by decide) ?_
            refine r_pick [3, 4, 5, 6, 0] (ls' := [(0, .ref 102), (3, .int v3), (4, .int v4), (5, .int v5), (6, .int (v6 + (1 : Int32)))]) rfl ?_
            exact hk29 v4 v5 (v6 + (1 : Int32)) 
          · refine r_iconst (pc := 120) (0 : Int32) d_X12_isSeen_120 rfl ?_
            exact r_zret (pc := 121) rfl (by decide) d_X12_isSeen_121
      · refine r_goto (pc := 56) 122 d_X12_isSeen_56 (by decide) ?_
        refine r_iinc (pc := 122) ((v6 + (1 : Int32))) 5 (ls' := [(6, .int (v6 + (1 : Int32))), (7, .int x7), (0, .ref 102), (3, .int v3), (4, .int v4), (5, .int v5)]) d_X12_isSeen_122 rfl rfl (Nat.le_of_ble_eq_true rfl) rfl ?_
        refine r_goto (pc := 125) 29 d_X12_isSeen_125 (by decide) ?_
        refine r_pick [2, 3, 4, 5, 0] (ls' := [(0, .ref 102), (3, .int v3), (4, .int v4), (5, .int v5), (6, .int (v6 + (1 : Int32)))]) rfl ?_
        exact hk29 v4 v5 (v6 + (1 : Int32)) 
theorem s_X12_isSeen {X : zX} {Sh : zSh} {d : Nat} (hst : (zl X).stackTraces = false) (h0 : zSh0 Sh) (hd : 1 ≤ d) {v1 : Int32} {v2 : Int32} {v3 : Int32} {D : zD} : Sd X m_X12_isSeen d [.ref 102, .int v1, .int v2, .int v3] (Sh, D) ((oP Sh D) (fn_X12_isSeen v1 v2 v3 D)) := by
  obtain ⟨d, rfl⟩ : ∃ e, d = e + 1 := ⟨d - 1, by omega⟩
  replace hd : 0 ≤ d := by omega
  refine z_body ck_X12_isSeen rfl (Nat.le_of_ble_eq_true rfl) rfl hst ?_
  rw [fn_X12_isSeen]
  show Rn X m_X12_isSeen (d + 1) 0 [(0, .ref 102), (1, .int v1), (2, .int v2), (3, .int v3)] [] (Sh, D) _
  refine r_iconst (pc := 0) (2 : Int32) d_X12_isSeen_0 rfl ?_
  refine r_aload_n (pc := 1) 0 d_X12_isSeen_1 rfl rfl ?_
  refine r_getR (pc := 2) g_X12_67 (K_102 h0) rfl (R_102_40 h0) d_X12_isSeen_2 ?_
  refine r_iload_n (pc := 5) 1 d_X12_isSeen_5 rfl rfl ?_
  refine r_ck (f := (oP Sh D)) rfl (fun hc1 => ?_)
  refine q_aald (pc := 6) (j := v1.toNatClampNeg) (K_169 h0) (Or.inl ⟨rfl, rfl⟩) hc1 rfl (RW_169 h0 _ (z_lt hc1)) d_X12_isSeen_6 ?_
  refine r_iconst (pc := 7) (1 : Int32) d_X12_isSeen_7 rfl ?_
  refine q_iald (pc := 8) (j := 1) (RK_169 h0 _ (z_lt hc1)) (by unfold vp_in; decide) rfl d_X12_isSeen_8 ?_
  refine r_iload_n (pc := 9) 2 d_X12_isSeen_9 rfl rfl ?_
  refine r_iadd (pc := 10) d_X12_isSeen_10 ?_
  refine r_imul (pc := 11) d_X12_isSeen_11 ?_
  refine r_iconst (pc := 12) (1 : Int32) d_X12_isSeen_12 rfl ?_
  refine r_iadd (pc := 13) d_X12_isSeen_13 ?_
  refine r_leti (f := (oP Sh D)) (fun x2 => ?_)
  refine r_istore (pc := 14) (ls' := [(4, .int x2), (0, .ref 102), (1, .int v1), (2, .int v2), (3, .int v3)]) d_X12_isSeen_14 (Nat.le_of_ble_eq_true rfl) rfl ?_
  refine r_aload_n (pc := 16) 1 d_X12_isSeen_16 rfl rfl ?_
  refine r_getR (pc := 17) g_X12_67 (K_102 h0) rfl (R_102_40 h0) d_X12_isSeen_17 ?_
  refine r_iload_n (pc := 20) 2 d_X12_isSeen_20 rfl rfl ?_
  refine r_ck (f := (oP Sh D)) rfl (fun hc3 => ?_)
  refine q_aald (pc := 21) (j := v1.toNatClampNeg) (K_169 h0) (Or.inl ⟨rfl, rfl⟩) hc3 rfl (RW_169 h0 _ (z_lt hc3)) d_X12_isSeen_21 ?_
  refine r_iconst (pc := 22) (2 : Int32) d_X12_isSeen_22 rfl ?_
  refine q_iald (pc := 23) (j := 2) (RK_169 h0 _ (z_lt hc3)) (by unfold vp_in; decide) rfl d_X12_isSeen_23 ?_
  refine r_leti (f := (oP Sh D)) (fun x4 => ?_)
  refine r_istore (pc := 24) (ls' := [(5, .int x4), (4, .int x2), (0, .ref 102), (1, .int v1), (2, .int v2), (3, .int v3)]) d_X12_isSeen_24 (Nat.le_of_ble_eq_true rfl) rfl ?_
  refine r_iconst (pc := 26) (0 : Int32) d_X12_isSeen_26 rfl ?_
  refine r_istore (pc := 27) (ls' := [(6, .int (0 : Int32)), (5, .int x4), (4, .int x2), (0, .ref 102), (1, .int v1), (2, .int v2), (3, .int v3)]) d_X12_isSeen_27 (Nat.le_of_ble_eq_true rfl) rfl ?_
  refine r_pick [3, 6, 2, 1, 0] (ls' := [(0, .ref 102), (3, .int v3), (4, .int x2), (5, .int x4), (6, .int (0 : Int32))]) rfl ?_
  exact s_X12_isSeen_29 hst h0 hd D zFU  x2 x4 (0 : Int32)
/-! CoveredSignsModel.seenFrom -/
theorem d_X12_seenFrom_0 : decode (yB m_X12_seenFrom) 0 = .ok (.iconst 0, 1) := by decide +kernel
theorem d_X12_seenFrom_1 : decode (yB m_X12_seenFrom) 1 = .ok (.istore_n 3, 1) := by decide +kernel
theorem d_X12_seenFrom_2 : decode (yB m_X12_seenFrom) 2 = .ok (.iconst 0, 1) := by decide +kernel
theorem d_X12_seenFrom_3 : decode (yB m_X12_seenFrom) 3 = .ok (.istore 4, 2) := by decide +kernel
theorem d_X12_seenFrom_5 : decode (yB m_X12_seenFrom) 5 = .ok (.iload 4, 2) := by decide +kernel
theorem d_X12_seenFrom_7 : decode (yB m_X12_seenFrom) 7 = .ok (.aload_n 0, 1) := by decide +kernel
theorem d_X12_seenFrom_8 : decode (yB m_X12_seenFrom) 8 = .ok (.getfield 17, 3) := by decide +kernel
theorem d_X12_seenFrom_11 : decode (yB m_X12_seenFrom) 11 = .ok (.if_icmp .ge 31, 3) := by decide +kernel
theorem d_X12_seenFrom_14 : decode (yB m_X12_seenFrom) 14 = .ok (.iload_n 3, 1) := by decide +kernel
theorem d_X12_seenFrom_15 : decode (yB m_X12_seenFrom) 15 = .ok (.aload_n 0, 1) := by decide +kernel
theorem d_X12_seenFrom_16 : decode (yB m_X12_seenFrom) 16 = .ok (.iload_n 1, 1) := by decide +kernel
theorem d_X12_seenFrom_17 : decode (yB m_X12_seenFrom) 17 = .ok (.iload 4, 2) := by decide +kernel
theorem d_X12_seenFrom_19 : decode (yB m_X12_seenFrom) 19 = .ok (.iload_n 2, 1) := by decide +kernel
theorem d_X12_seenFrom_20 : decode (yB m_X12_seenFrom) 20 = .ok (.invokevirtual 379, 3) := by decide +kernel
theorem d_X12_seenFrom_23 : decode (yB m_X12_seenFrom) 23 = .ok (.ifCond .eq 10, 3) := by decide +kernel
theorem d_X12_seenFrom_26 : decode (yB m_X12_seenFrom) 26 = .ok (.iconst 1, 1) := by decide +kernel
theorem d_X12_seenFrom_27 : decode (yB m_X12_seenFrom) 27 = .ok (.iload 4, 2) := by decide +kernel
theorem d_X12_seenFrom_29 : decode (yB m_X12_seenFrom) 29 = .ok (.ishl, 1) := by decide +kernel
theorem d_X12_seenFrom_30 : decode (yB m_X12_seenFrom) 30 = .ok (.goto 4, 3) := by decide +kernel
theorem d_X12_seenFrom_33 : decode (yB m_X12_seenFrom) 33 = .ok (.iconst 0, 1) := by decide +kernel
theorem d_X12_seenFrom_34 : decode (yB m_X12_seenFrom) 34 = .ok (.ior, 1) := by decide +kernel
theorem d_X12_seenFrom_35 : decode (yB m_X12_seenFrom) 35 = .ok (.istore_n 3, 1) := by decide +kernel
theorem d_X12_seenFrom_36 : decode (yB m_X12_seenFrom) 36 = .ok (.iinc 4 1, 3) := by decide +kernel
theorem d_X12_seenFrom_39 : decode (yB m_X12_seenFrom) 39 = .ok (.goto (-34), 3) := by decide +kernel
theorem d_X12_seenFrom_42 : decode (yB m_X12_seenFrom) 42 = .ok (.iload_n 3, 1) := by decide +kernel
theorem d_X12_seenFrom_43 : decode (yB m_X12_seenFrom) 43 = .ok (.ireturn, 1) := by decide +kernel
def fn_X12_seenFrom_5 (v1 : Int32) (v2 : Int32) (D : zD) : Nat → Int32 → Int32 → Option Int32
  | 0, _, _ => none
  | n + 1, v3, v4 => (if (gI D 102 14) ≤ v4 then ((some v3)) else ((fn_X12_isSeen v1 v4 v2 D).bind fun x2 => (if x2 = 0 then (zlet (v3 ||| (0 : Int32)) fun x4 => ((fn_X12_seenFrom_5 v1 v2 D n) x4 (v4 + (1 : Int32)))) else (zlet (v3 ||| ((1 : Int32) <<< (v4 &&& 31))) fun x5 => ((fn_X12_seenFrom_5 v1 v2 D n) x5 (v4 + (1 : Int32)))))))
def fn_X12_seenFrom (v1 : Int32) (v2 : Int32) (D : zD) : Option Int32 := (fn_X12_seenFrom_5 v1 v2 D zFU (0 : Int32) (0 : Int32))
theorem s_X12_seenFrom_5 {X : zX} {Sh : zSh} {d : Nat} (hst : (zl X).stackTraces = false) (h0 : zSh0 Sh) (hd : 1 ≤ d) {v1 : Int32} {v2 : Int32} (D : zD) : ∀ (n : Nat) (v3 : Int32) (v4 : Int32) , Rn X m_X12_seenFrom (d + 1) 5 [(0, .ref 102), (1, .int v1), (2, .int v2), (3, .int v3), (4, .int v4)] [] (Sh, D) ((oP Sh D) (fn_X12_seenFrom_5 v1 v2 D n v3 v4)) := by
  intro n
  induction n with
  | zero => intro v3 v4; exact Rn_none rfl
  | succ n hk5 =>
    intro v3 v4
    rw [fn_X12_seenFrom_5]
    refine r_iload (pc := 5) 4 d_X12_seenFrom_5 rfl ?_
    refine r_aload_n (pc := 7) 0 d_X12_seenFrom_7 rfl rfl ?_
    refine q_gI (pc := 8) g_X12_17 (K_102 h0) rfl d_X12_seenFrom_8 ?_
    refine r_icmp_ge (f := (oP Sh D)) (pc := 11) 42 d_X12_seenFrom_11 (by decide) (fun c1 => ?_) (fun c1 => ?_)
    · refine r_iload_n (pc := 42) 3 d_X12_seenFrom_42 rfl rfl ?_
      exact r_iret (pc := 43) rfl d_X12_seenFrom_43
    · refine r_iload_n (pc := 14) 3 d_X12_seenFrom_14 rfl rfl ?_
      refine r_aload_n (pc := 15) 0 d_X12_seenFrom_15 rfl rfl ?_
      refine r_iload_n (pc := 16) 1 d_X12_seenFrom_16 rfl rfl ?_
      refine r_iload (pc := 17) 4 d_X12_seenFrom_17 rfl ?_
      refine r_iload_n (pc := 19) 2 d_X12_seenFrom_19 rfl rfl ?_
      refine q_cP (f := (oP Sh D)) (av := [.ref 102, .int v1, .int v4, .int v2]) (st := [.int v3]) (z_runV ck_X12_isSeen rfl ml_X12_379 ci_X12_isSeen cv_X12_isSeen (K_102 h0) (ci := 12) rfl rfl (Nat.le_of_ble_eq_true rfl) d_X12_seenFrom_20) (s_X12_isSeen hst h0 (by omega)) kp_P (fun x2 _ => ?_)
      refine r_if_eq (f := (oP Sh D)) (pc := 23) 33 d_X12_seenFrom_23 (by decide) (fun c3 => ?_) (fun c3 => ?_)
      · refine r_iconst (pc := 33) (0 : Int32) d_X12_seenFrom_33 rfl ?_
        refine r_ior (pc := 34) d_X12_seenFrom_34 ?_
        refine r_leti (f := (oP Sh D)) (fun x4 => ?_)
        refine r_istore_n (pc := 35) (ls' := [(3, .int x4), (0, .ref 102), (1, .int v1), (2, .int v2), (4, .int v4)]) d_X12_seenFrom_35 rfl (Nat.le_of_ble_eq_true rfl) rfl ?_
        refine r_iinc (pc := 36) ((v4 + (1 : Int32))) 4 (ls' := [(4, .int (v4 + (1 : Int32))), (3, .int x4), (0, .ref 102), (1, .int v1), (2, .int v2)]) d_X12_seenFrom_36 rfl rfl (Nat.le_of_ble_eq_true rfl) rfl ?_
        refine r_goto (pc := 39) 5 d_X12_seenFrom_39 (by decide) ?_
        refine r_pick [2, 3, 4, 1, 0] (ls' := [(0, .ref 102), (1, .int v1), (2, .int v2), (3, .int x4), (4, .int (v4 + (1 : Int32)))]) rfl ?_
        exact hk5 x4 (v4 + (1 : Int32)) 
      · refine r_iconst (pc := 26) (1 : Int32) d_X12_seenFrom_26 rfl ?_
        refine r_iload (pc := 27) 4 d_X12_seenFrom_27 rfl ?_
        refine r_ishl (pc := 29) d_X12_seenFrom_29 ?_
        refine r_goto (pc := 30) 34 d_X12_seenFrom_30 (by decide) ?_
        refine r_ior (pc := 34) d_X12_seenFrom_34 ?_
        refine r_leti (f := (oP Sh D)) (fun x5 => ?_)
        refine r_istore_n (pc := 35) (ls' := [(3, .int x5), (0, .ref 102), (1, .int v1), (2, .int v2), (4, .int v4)]) d_X12_seenFrom_35 rfl (Nat.le_of_ble_eq_true rfl) rfl ?_
        refine r_iinc (pc := 36) ((v4 + (1 : Int32))) 4 (ls' := [(4, .int (v4 + (1 : Int32))), (3, .int x5), (0, .ref 102), (1, .int v1), (2, .int v2)]) d_X12_seenFrom_36 rfl rfl (Nat.le_of_ble_eq_true rfl) rfl ?_
        refine r_goto (pc := 39) 5 d_X12_seenFrom_39 (by decide) ?_
        refine r_pick [2, 3, 4, 1, 0] (ls' := [(0, .ref 102), (1, .int v1), (2, .int v2), (3, .int x5), (4, .int (v4 + (1 : Int32)))]) rfl ?_
        exact hk5 x5 (v4 + (1 : Int32)) 
theorem s_X12_seenFrom {X : zX} {Sh : zSh} {d : Nat} (hst : (zl X).stackTraces = false) (h0 : zSh0 Sh) (hd : 2 ≤ d) {v1 : Int32} {v2 : Int32} {D : zD} : Sd X m_X12_seenFrom d [.ref 102, .int v1, .int v2] (Sh, D) ((oP Sh D) (fn_X12_seenFrom v1 v2 D)) := by
  obtain ⟨d, rfl⟩ : ∃ e, d = e + 1 := ⟨d - 1, by omega⟩
  replace hd : 1 ≤ d := by omega
  refine z_body ck_X12_seenFrom rfl (Nat.le_of_ble_eq_true rfl) rfl hst ?_
  rw [fn_X12_seenFrom]
  show Rn X m_X12_seenFrom (d + 1) 0 [(0, .ref 102), (1, .int v1), (2, .int v2)] [] (Sh, D) _
  refine r_iconst (pc := 0) (0 : Int32) d_X12_seenFrom_0 rfl ?_
  refine r_istore_n (pc := 1) (ls' := [(3, .int (0 : Int32)), (0, .ref 102), (1, .int v1), (2, .int v2)]) d_X12_seenFrom_1 rfl (Nat.le_of_ble_eq_true rfl) rfl ?_
  refine r_iconst (pc := 2) (0 : Int32) d_X12_seenFrom_2 rfl ?_
  refine r_istore (pc := 3) (ls' := [(4, .int (0 : Int32)), (3, .int (0 : Int32)), (0, .ref 102), (1, .int v1), (2, .int v2)]) d_X12_seenFrom_3 (Nat.le_of_ble_eq_true rfl) rfl ?_
  refine r_pick [2, 3, 4, 1, 0] (ls' := [(0, .ref 102), (1, .int v1), (2, .int v2), (3, .int (0 : Int32)), (4, .int (0 : Int32))]) rfl ?_
  exact s_X12_seenFrom_5 hst h0 hd D zFU  (0 : Int32) (0 : Int32)
/-! CoveredSignsModel.seenOf -/
theorem d_X12_seenOf_0 : decode (yB m_X12_seenOf) 0 = .ok (.iconst 0, 1) := by decide +kernel
theorem d_X12_seenOf_1 : decode (yB m_X12_seenOf) 1 = .ok (.istore 4, 2) := by decide +kernel
theorem d_X12_seenOf_3 : decode (yB m_X12_seenOf) 3 = .ok (.iload_n 3, 1) := by decide +kernel
theorem d_X12_seenOf_4 : decode (yB m_X12_seenOf) 4 = .ok (.ifCond .eq 7, 3) := by decide +kernel
theorem d_X12_seenOf_7 : decode (yB m_X12_seenOf) 7 = .ok (.iconst 0, 1) := by decide +kernel
theorem d_X12_seenOf_8 : decode (yB m_X12_seenOf) 8 = .ok (.goto 4, 3) := by decide +kernel
theorem d_X12_seenOf_11 : decode (yB m_X12_seenOf) 11 = .ok (.iload_n 2, 1) := by decide +kernel
theorem d_X12_seenOf_12 : decode (yB m_X12_seenOf) 12 = .ok (.istore 5, 2) := by decide +kernel
theorem d_X12_seenOf_14 : decode (yB m_X12_seenOf) 14 = .ok (.iload 5, 2) := by decide +kernel
theorem d_X12_seenOf_16 : decode (yB m_X12_seenOf) 16 = .ok (.iload_n 2, 1) := by decide +kernel
theorem d_X12_seenOf_17 : decode (yB m_X12_seenOf) 17 = .ok (.if_icmp .gt 21, 3) := by decide +kernel
theorem d_X12_seenOf_20 : decode (yB m_X12_seenOf) 20 = .ok (.iload 4, 2) := by decide +kernel
theorem d_X12_seenOf_22 : decode (yB m_X12_seenOf) 22 = .ok (.aload_n 0, 1) := by decide +kernel
theorem d_X12_seenOf_23 : decode (yB m_X12_seenOf) 23 = .ok (.iload_n 1, 1) := by decide +kernel
theorem d_X12_seenOf_24 : decode (yB m_X12_seenOf) 24 = .ok (.iload 5, 2) := by decide +kernel
theorem d_X12_seenOf_26 : decode (yB m_X12_seenOf) 26 = .ok (.invokevirtual 382, 3) := by decide +kernel
theorem d_X12_seenOf_29 : decode (yB m_X12_seenOf) 29 = .ok (.ior, 1) := by decide +kernel
theorem d_X12_seenOf_30 : decode (yB m_X12_seenOf) 30 = .ok (.istore 4, 2) := by decide +kernel
theorem d_X12_seenOf_32 : decode (yB m_X12_seenOf) 32 = .ok (.iinc 5 1, 3) := by decide +kernel
theorem d_X12_seenOf_35 : decode (yB m_X12_seenOf) 35 = .ok (.goto (-21), 3) := by decide +kernel
theorem d_X12_seenOf_38 : decode (yB m_X12_seenOf) 38 = .ok (.iload 4, 2) := by decide +kernel
theorem d_X12_seenOf_40 : decode (yB m_X12_seenOf) 40 = .ok (.ireturn, 1) := by decide +kernel
def fn_X12_seenOf_14 (v1 : Int32) (v2 : Int32) (v3 : Int32) (D : zD) : Nat → Int32 → Int32 → Option Int32
  | 0, _, _ => none
  | n + 1, v4, v5 => (if v2 < v5 then ((some v4)) else ((fn_X12_seenFrom v1 v5 D).bind fun x3 => zlet (v4 ||| x3) fun x4 => ((fn_X12_seenOf_14 v1 v2 v3 D n) x4 (v5 + (1 : Int32)))))
def fn_X12_seenOf (v1 : Int32) (v2 : Int32) (v3 : Int32) (D : zD) : Option Int32 := (if v3 = 0 then ((fn_X12_seenOf_14 v1 v2 v3 D zFU (0 : Int32) v2)) else ((fn_X12_seenOf_14 v1 v2 v3 D zFU (0 : Int32) (0 : Int32))))
theorem s_X12_seenOf_14 {X : zX} {Sh : zSh} {d : Nat} (hst : (zl X).stackTraces = false) (h0 : zSh0 Sh) (hd : 2 ≤ d) {v1 : Int32} {v2 : Int32} {v3 : Int32} (D : zD) : ∀ (n : Nat) (v4 : Int32) (v5 : Int32) , Rn X m_X12_seenOf (d + 1) 14 [(0, .ref 102), (1, .int v1), (2, .int v2), (4, .int v4), (5, .int v5)] [] (Sh, D) ((oP Sh D) (fn_X12_seenOf_14 v1 v2 v3 D n v4 v5)) := by
  intro n
  induction n with
  | zero => intro v4 v5; exact Rn_none rfl
  | succ n hk14 =>
    intro v4 v5
    rw [fn_X12_seenOf_14]
    refine r_iload (pc := 14) 4 d_X12_seenOf_14 rfl ?_
    refine r_iload_n (pc := 16) 2 d_X12_seenOf_16 rfl rfl ?_
    refine r_icmp_gt (f := (oP Sh D)) (pc := 17) 38 d_X12_seenOf_17 (by decide) (fun c2 => ?_) (fun c2 => ?_)
    · refine r_iload (pc := 38) 3 d_X12_seenOf_38 rfl ?_
      exact r_iret (pc := 40) rfl d_X12_seenOf_40
    · refine r_iload (pc := 20) 3 d_X12_seenOf_20 rfl ?_
      refine r_aload_n (pc := 22) 0 d_X12_seenOf_22 rfl rfl ?_
      refine r_iload_n (pc := 23) 1 d_X12_seenOf_23 rfl rfl ?_
      refine r_iload (pc := 24) 4 d_X12_seenOf_24 rfl ?_
      refine q_cP (f := (oP Sh D)) (av := [.ref 102, .int v1, .int v5]) (st := [.int v4]) (z_runV ck_X12_seenFrom rfl ml_X12_382 ci_X12_seenFrom cv_X12_seenFrom (K_102 h0) (ci := 12) rfl rfl (Nat.le_of_ble_eq_true rfl) d_X12_seenOf_26) (s_X12_seenFrom hst h0 (by omega)) kp_P (fun x3 _ => ?_)
      refine r_ior (pc := 29) d_X12_seenOf_29 ?_
      refine r_leti (f := (oP Sh D)) (fun x4 => ?_)
      refine r_istore (pc := 30) (ls' := [(4, .int x4), (0, .ref 102), (1, .int v1), (2, .int v2), (5, .int v5)]) d_X12_seenOf_30 (Nat.le_of_ble_eq_true rfl) rfl ?_
      refine r_iinc (pc := 32) ((v5 + (1 : Int32))) 4 (ls' := [(5, .int (v5 + (1 : Int32))), (4, .int x4), (0, .ref 102), (1, .int v1), (2, .int v2)]) d_X12_seenOf_32 rfl rfl (Nat.le_of_ble_eq_true rfl) rfl ?_
      refine r_goto (pc := 35) 14 d_X12_seenOf_35 (by decide) ?_
      refine r_pick [2, 3, 4, 1, 0] (ls' := [(0, .ref 102), (1, .int v1), (2, .int v2), (4, .int x4), (5, .int (v5 + (1 : Int32)))]) rfl ?_
      exact hk14 x4 (v5 + (1 : Int32)) 
theorem s_X12_seenOf {X : zX} {Sh : zSh} {d : Nat} (hst : (zl X).stackTraces = false) (h0 : zSh0 Sh) (hd : 3 ≤ d) {v1 : Int32} {v2 : Int32} {v3 : Int32} {D : zD} : Sd X m_X12_seenOf d [.ref 102, .int v1, .int v2, .int v3] (Sh, D) ((oP Sh D) (fn_X12_seenOf v1 v2 v3 D)) := by
  obtain ⟨d, rfl⟩ : ∃ e, d = e + 1 := ⟨d - 1, by omega⟩
  replace hd : 2 ≤ d := by omega
  refine z_body ck_X12_seenOf rfl (Nat.le_of_ble_eq_true rfl) rfl hst ?_
  rw [fn_X12_seenOf]
  show Rn X m_X12_seenOf (d + 1) 0 [(0, .ref 102), (1, .int v1), (2, .int v2), (3, .int v3)] [] (Sh, D) _
  refine r_iconst (pc := 0) (0 : Int32) d_X12_seenOf_0 rfl ?_
  refine r_istore (pc := 1) (ls' := [(4, .int (0 : Int32)), (0, .ref 102), (1, .int v1), (2, .int v2), (3, .int v3)]) d_X12_seenOf_1 (Nat.le_of_ble_eq_true rfl) rfl ?_
  refine r_iload_n (pc := 3) 4 d_X12_seenOf_3 rfl rfl ?_
  refine r_if_eq (f := (oP Sh D)) (pc := 4) 11 d_X12_seenOf_4 (by decide) (fun c1 => ?_) (fun c1 => ?_)
  · refine r_iload_n (pc := 11) 3 d_X12_seenOf_11 rfl rfl ?_
    refine r_istore (pc := 12) (ls' := [(5, .int v2), (4, .int (0 : Int32)), (0, .ref 102), (1, .int v1), (2, .int v2), (3, .int v3)]) d_X12_seenOf_12 (Nat.le_of_ble_eq_true rfl) rfl ?_
    refine r_pick [2, 3, 4, 1, 0] (ls' := [(0, .ref 102), (1, .int v1), (2, .int v2), (4, .int (0 : Int32)), (5, .int v2)]) rfl ?_
    exact s_X12_seenOf_14 hst h0 hd D zFU  (0 : Int32) v2
  · refine r_iconst (pc := 7) (0 : Int32) d_X12_seenOf_7 rfl ?_
    refine r_goto (pc := 8) 12 d_X12_seenOf_8 (by decide) ?_
    refine r_istore (pc := 12) (ls' := [(5, .int (0 : Int32)), (4, .int (0 : Int32)), (0, .ref 102), (1, .int v1), (2, .int v2), (3, .int v3)]) d_X12_seenOf_12 (Nat.le_of_ble_eq_true rfl) rfl ?_
    refine r_pick [2, 3, 4, 1, 0] (ls' := [(0, .ref 102), (1, .int v1), (2, .int v2), (4, .int (0 : Int32)), (5, .int (0 : Int32))]) rfl ?_
    exact s_X12_seenOf_14 hst h0 hd D zFU  (0 : Int32) (0 : Int32)
/-! CoveredSignsModel.isStanding -/
theorem d_X12_isStanding_0 : decode (yB m_X12_isStanding) 0 = .ok (.iload_n 1, 1) := by decide +kernel
theorem d_X12_isStanding_1 : decode (yB m_X12_isStanding) 1 = .ok (.iconst 0, 1) := by decide +kernel
theorem d_X12_isStanding_2 : decode (yB m_X12_isStanding) 2 = .ok (.aload_n 0, 1) := by decide +kernel
theorem d_X12_isStanding_3 : decode (yB m_X12_isStanding) 3 = .ok (.getfield 236, 3) := by decide +kernel
theorem d_X12_isStanding_6 : decode (yB m_X12_isStanding) 6 = .ok (.iconst 1, 1) := by decide +kernel
theorem d_X12_isStanding_7 : decode (yB m_X12_isStanding) 7 = .ok (.isub, 1) := by decide +kernel
theorem d_X12_isStanding_8 : decode (yB m_X12_isStanding) 8 = .ok (.invokestatic 147, 3) := by decide +kernel
theorem d_X12_isStanding_11 : decode (yB m_X12_isStanding) 11 = .ok (.ireturn, 1) := by decide +kernel
def fn_X12_isStanding (v1 : Int32) (D : zD) : Option Int32 := (fn_X12_in v1 (0 : Int32) ((gI D 102 36) - (1 : Int32))).bind fun x1 => zcb x1 <| (some x1)
theorem s_X12_isStanding {X : zX} {Sh : zSh} {d : Nat} (hst : (zl X).stackTraces = false) (h0 : zSh0 Sh) (hd : 2 ≤ d) {v1 : Int32} {D : zD} : Sd X m_X12_isStanding d [.ref 102, .int v1] (Sh, D) ((oP Sh D) (fn_X12_isStanding v1 D)) := by
  obtain ⟨d, rfl⟩ : ∃ e, d = e + 1 := ⟨d - 1, by omega⟩
  replace hd : 1 ≤ d := by omega
  refine z_body ck_X12_isStanding rfl (Nat.le_of_ble_eq_true rfl) rfl hst ?_
  rw [fn_X12_isStanding]
  show Rn X m_X12_isStanding (d + 1) 0 [(0, .ref 102), (1, .int v1)] [] (Sh, D) _
  refine r_iload_n (pc := 0) 1 d_X12_isStanding_0 rfl rfl ?_
  refine r_iconst (pc := 1) (0 : Int32) d_X12_isStanding_1 rfl ?_
  refine r_aload_n (pc := 2) 0 d_X12_isStanding_2 rfl rfl ?_
  refine q_gI (pc := 3) g_X12_236 (K_102 h0) rfl d_X12_isStanding_3 ?_
  refine r_iconst (pc := 6) (1 : Int32) d_X12_isStanding_6 rfl ?_
  refine r_isub (pc := 7) d_X12_isStanding_7 ?_
  refine q_cP (f := (oP Sh D)) (av := [.int v1, .int (0 : Int32), .int ((gI D 102 36) - (1 : Int32))]) (st := []) (z_runS ck_X12_in rfl ml_X12_147 cs_X12_in rfl (Nat.le_of_ble_eq_true rfl) d_X12_isStanding_8) (s_X12_in hst h0 (by omega)) kp_P (fun x1 _ => ?_)
  refine r_cb (f := (oP Sh D)) rfl (fun hb2 => ?_)
  exact r_zret (pc := 11) rfl hb2 d_X12_isStanding_11
/-! CoveredSignsModel.seen -/
theorem d_X12_seen_0 : decode (yB m_X12_seen) 0 = .ok (.aload_n 0, 1) := by decide +kernel
theorem d_X12_seen_1 : decode (yB m_X12_seen) 1 = .ok (.iconst 0, 1) := by decide +kernel
theorem d_X12_seen_2 : decode (yB m_X12_seen) 2 = .ok (.putfield 113, 3) := by decide +kernel
theorem d_X12_seen_5 : decode (yB m_X12_seen) 5 = .ok (.aload_n 0, 1) := by decide +kernel
theorem d_X12_seen_6 : decode (yB m_X12_seen) 6 = .ok (.aload_n 0, 1) := by decide +kernel
theorem d_X12_seen_7 : decode (yB m_X12_seen) 7 = .ok (.iload_n 1, 1) := by decide +kernel
theorem d_X12_seen_8 : decode (yB m_X12_seen) 8 = .ok (.invokevirtual 385, 3) := by decide +kernel
theorem d_X12_seen_11 : decode (yB m_X12_seen) 11 = .ok (.ifCond .ne 7, 3) := by decide +kernel
theorem d_X12_seen_14 : decode (yB m_X12_seen) 14 = .ok (.iconst 1, 1) := by decide +kernel
theorem d_X12_seen_15 : decode (yB m_X12_seen) 15 = .ok (.goto 4, 3) := by decide +kernel
theorem d_X12_seen_18 : decode (yB m_X12_seen) 18 = .ok (.iconst 0, 1) := by decide +kernel
theorem d_X12_seen_19 : decode (yB m_X12_seen) 19 = .ok (.iconst 1, 1) := by decide +kernel
theorem d_X12_seen_20 : decode (yB m_X12_seen) 20 = .ok (.invokevirtual 214, 3) := by decide +kernel
theorem d_X12_seen_23 : decode (yB m_X12_seen) 23 = .ok (.ifCond .ne 26, 3) := by decide +kernel
theorem d_X12_seen_26 : decode (yB m_X12_seen) 26 = .ok (.aload_n 0, 1) := by decide +kernel
theorem d_X12_seen_27 : decode (yB m_X12_seen) 27 = .ok (.iload_n 2, 1) := by decide +kernel
theorem d_X12_seen_28 : decode (yB m_X12_seen) 28 = .ok (.iconst 0, 1) := by decide +kernel
theorem d_X12_seen_29 : decode (yB m_X12_seen) 29 = .ok (.bipush 99, 2) := by decide +kernel
theorem d_X12_seen_31 : decode (yB m_X12_seen) 31 = .ok (.invokestatic 147, 3) := by decide +kernel
theorem d_X12_seen_34 : decode (yB m_X12_seen) 34 = .ok (.ifCond .ne 7, 3) := by decide +kernel
theorem d_X12_seen_37 : decode (yB m_X12_seen) 37 = .ok (.iconst 1, 1) := by decide +kernel
theorem d_X12_seen_38 : decode (yB m_X12_seen) 38 = .ok (.goto 4, 3) := by decide +kernel
theorem d_X12_seen_41 : decode (yB m_X12_seen) 41 = .ok (.iconst 0, 1) := by decide +kernel
theorem d_X12_seen_42 : decode (yB m_X12_seen) 42 = .ok (.iconst 2, 1) := by decide +kernel
theorem d_X12_seen_43 : decode (yB m_X12_seen) 43 = .ok (.invokevirtual 214, 3) := by decide +kernel
theorem d_X12_seen_46 : decode (yB m_X12_seen) 46 = .ok (.ifCond .eq 5, 3) := by decide +kernel
theorem d_X12_seen_49 : decode (yB m_X12_seen) 49 = .ok (.iconst 0, 1) := by decide +kernel
theorem d_X12_seen_50 : decode (yB m_X12_seen) 50 = .ok (.ireturn, 1) := by decide +kernel
theorem d_X12_seen_51 : decode (yB m_X12_seen) 51 = .ok (.aload_n 0, 1) := by decide +kernel
theorem d_X12_seen_52 : decode (yB m_X12_seen) 52 = .ok (.iload_n 1, 1) := by decide +kernel
theorem d_X12_seen_53 : decode (yB m_X12_seen) 53 = .ok (.iload_n 2, 1) := by decide +kernel
theorem d_X12_seen_54 : decode (yB m_X12_seen) 54 = .ok (.iload_n 3, 1) := by decide +kernel
theorem d_X12_seen_55 : decode (yB m_X12_seen) 55 = .ok (.invokevirtual 388, 3) := by decide +kernel
theorem d_X12_seen_58 : decode (yB m_X12_seen) 58 = .ok (.ireturn, 1) := by decide +kernel
def fn_X12_seen_42 (v1 : Int32) (v2 : Int32) (v3 : Int32) (w1 : Int32) (D : zD) : Option (Int32 × zD) := (fn_X12_bad w1 (2 : Int32) D).bind fun q8 => (if q8.1 = 0 then ((fn_X12_seenOf v1 v2 v3 q8.2).bind fun x10 => (some (x10, q8.2))) else ((some ((0 : Int32), q8.2))))
def fn_X12_seen_19 (v1 : Int32) (v2 : Int32) (v3 : Int32) (w1 : Int32) (D : zD) : Option (Int32 × zD) := (fn_X12_bad w1 (1 : Int32) D).bind fun q4 => (if q4.1 = 0 then ((fn_X12_in v2 (0 : Int32) (99 : Int32)).bind fun x6 => (if x6 = 0 then ((fn_X12_seen_42 v1 v2 v3 (1 : Int32) q4.2)) else ((fn_X12_seen_42 v1 v2 v3 (0 : Int32) q4.2)))) else ((some ((0 : Int32), q4.2))))
def fn_X12_seen (v1 : Int32) (v2 : Int32) (v3 : Int32) (D : zD) : Option (Int32 × zD) := zlet (sI D 102 0 (0 : Int32)) fun D1 => (fn_X12_isStanding v1 D1).bind fun x2 => (if x2 = 0 then ((fn_X12_seen_19 v1 v2 v3 (1 : Int32) D1)) else ((fn_X12_seen_19 v1 v2 v3 (0 : Int32) D1)))
theorem s_X12_seen_42 {X : zX} {Sh : zSh} {d : Nat} (hst : (zl X).stackTraces = false) (h0 : zSh0 Sh) (hd : 3 ≤ d) {v1 : Int32} {v2 : Int32} {v3 : Int32} (w1 : Int32) (D : zD)  : Rn X m_X12_seen (d + 1) 42 [(0, .ref 102), (1, .int v1), (2, .int v2), (3, .int v3)] [.int w1, .ref 102] (Sh, D) ((oI Sh) (fn_X12_seen_42 v1 v2 v3 w1 D)) := by
  rw [fn_X12_seen_42]
  refine r_iconst (pc := 42) (2 : Int32) d_X12_seen_42 rfl ?_
  refine q_cI (f := (oI Sh)) (av := [.ref 102, .int w1, .int (2 : Int32)]) (st := []) (z_runV ck_X12_bad rfl ml_X12_214 ci_X12_bad cv_X12_bad (K_102 h0) (ci := 12) rfl rfl (Nat.le_of_ble_eq_true rfl) d_X12_seen_43) (s_X12_bad hst h0 (by omega)) kp_I (fun q8 _ => ?_)
  refine r_if_eq (f := (oI Sh)) (pc := 46) 51 d_X12_seen_46 (by decide) (fun c9 => ?_) (fun c9 => ?_)
  · refine r_aload_n (pc := 51) 0 d_X12_seen_51 rfl rfl ?_
    refine r_iload_n (pc := 52) 1 d_X12_seen_52 rfl rfl ?_
    refine r_iload_n (pc := 53) 2 d_X12_seen_53 rfl rfl ?_
    refine r_iload_n (pc := 54) 3 d_X12_seen_54 rfl rfl ?_
    refine q_cP (f := (oI Sh)) (av := [.ref 102, .int v1, .int v2, .int v3]) (st := []) (z_runV ck_X12_seenOf rfl ml_X12_388 ci_X12_seenOf cv_X12_seenOf (K_102 h0) (ci := 12) rfl rfl (Nat.le_of_ble_eq_true rfl) d_X12_seen_55) (s_X12_seenOf hst h0 (by omega)) kp_I (fun x10 _ => ?_)
    exact r_iret (pc := 58) rfl d_X12_seen_58
  · refine r_iconst (pc := 49) (0 : Int32) d_X12_seen_49 rfl ?_
    exact r_iret (pc := 50) rfl d_X12_seen_50
theorem s_X12_seen_19 {X : zX} {Sh : zSh} {d : Nat} (hst : (zl X).stackTraces = false) (h0 : zSh0 Sh) (hd : 3 ≤ d) {v1 : Int32} {v2 : Int32} {v3 : Int32} (w1 : Int32) (D : zD)  : Rn X m_X12_seen (d + 1) 19 [(0, .ref 102), (1, .int v1), (2, .int v2), (3, .int v3)] [.int w1, .ref 102] (Sh, D) ((oI Sh) (fn_X12_seen_19 v1 v2 v3 w1 D)) := by
  rw [fn_X12_seen_19]
  refine r_iconst (pc := 19) (1 : Int32) d_X12_seen_19 rfl ?_
  refine q_cI (f := (oI Sh)) (av := [.ref 102, .int w1, .int (1 : Int32)]) (st := []) (z_runV ck_X12_bad rfl ml_X12_214 ci_X12_bad cv_X12_bad (K_102 h0) (ci := 12) rfl rfl (Nat.le_of_ble_eq_true rfl) d_X12_seen_20) (s_X12_bad hst h0 (by omega)) kp_I (fun q4 _ => ?_)
  refine r_if_ne (f := (oI Sh)) (pc := 23) 49 d_X12_seen_23 (by decide) (fun c5 => ?_) (fun c5 => ?_)
  · refine r_iconst (pc := 49) (0 : Int32) d_X12_seen_49 rfl ?_
    exact r_iret (pc := 50) rfl d_X12_seen_50
  · refine r_aload_n (pc := 26) 0 d_X12_seen_26 rfl rfl ?_
    refine r_iload_n (pc := 27) 2 d_X12_seen_27 rfl rfl ?_
    refine r_iconst (pc := 28) (0 : Int32) d_X12_seen_28 rfl ?_
    refine r_bipush (pc := 29) (99 : Int32) d_X12_seen_29 rfl ?_
    refine q_cP (f := (oI Sh)) (av := [.int v2, .int (0 : Int32), .int (99 : Int32)]) (st := [.ref 102]) (z_runS ck_X12_in rfl ml_X12_147 cs_X12_in rfl (Nat.le_of_ble_eq_true rfl) d_X12_seen_31) (s_X12_in hst h0 (by omega)) kp_I (fun x6 _ => ?_)
    refine r_if_ne (f := (oI Sh)) (pc := 34) 41 d_X12_seen_34 (by decide) (fun c7 => ?_) (fun c7 => ?_)
    · refine r_iconst (pc := 41) (0 : Int32) d_X12_seen_41 rfl ?_
      refine r_pick [0, 1, 2, 3] (ls' := [(0, .ref 102), (1, .int v1), (2, .int v2), (3, .int v3)]) rfl ?_
      exact s_X12_seen_42 hst h0 hd (0 : Int32) q4.2
    · refine r_iconst (pc := 37) (1 : Int32) d_X12_seen_37 rfl ?_
      refine r_goto (pc := 38) 42 d_X12_seen_38 (by decide) ?_
      refine r_pick [0, 1, 2, 3] (ls' := [(0, .ref 102), (1, .int v1), (2, .int v2), (3, .int v3)]) rfl ?_
      exact s_X12_seen_42 hst h0 hd (1 : Int32) q4.2
theorem s_X12_seen {X : zX} {Sh : zSh} {d : Nat} (hst : (zl X).stackTraces = false) (h0 : zSh0 Sh) (hd : 4 ≤ d) {v1 : Int32} {v2 : Int32} {v3 : Int32} {D : zD} : Sd X m_X12_seen d [.ref 102, .int v1, .int v2, .int v3] (Sh, D) ((oI Sh) (fn_X12_seen v1 v2 v3 D)) := by
  obtain ⟨d, rfl⟩ : ∃ e, d = e + 1 := ⟨d - 1, by omega⟩
  replace hd : 3 ≤ d := by omega
  refine z_body ck_X12_seen rfl (Nat.le_of_ble_eq_true rfl) rfl hst ?_
  rw [fn_X12_seen]
  show Rn X m_X12_seen (d + 1) 0 [(0, .ref 102), (1, .int v1), (2, .int v2), (3, .int v3)] [] (Sh, D) _
  refine r_aload_n (pc := 0) 0 d_X12_seen_0 rfl rfl ?_
  refine r_iconst (pc := 1) (0 : Int32) d_X12_seen_1 rfl ?_
  refine r_putI (pc := 2) p_X12_113 (K_102 h0) rfl (Or.inl rfl) d_X12_seen_2 ?_
  refine r_letD (f := (oI Sh)) (fun D1 => ?_)
  refine r_aload_n (pc := 5) 0 d_X12_seen_5 rfl rfl ?_
  refine r_aload_n (pc := 6) 0 d_X12_seen_6 rfl rfl ?_
  refine r_iload_n (pc := 7) 1 d_X12_seen_7 rfl rfl ?_
  refine q_cP (f := (oI Sh)) (av := [.ref 102, .int v1]) (st := [.ref 102]) (z_runV ck_X12_isStanding rfl ml_X12_385 ci_X12_isStanding cv_X12_isStanding (K_102 h0) (ci := 12) rfl rfl (Nat.le_of_ble_eq_true rfl) d_X12_seen_8) (s_X12_isStanding hst h0 (by omega)) kp_I (fun x2 _ => ?_)
  refine r_if_ne (f := (oI Sh)) (pc := 11) 18 d_X12_seen_11 (by decide) (fun c3 => ?_) (fun c3 => ?_)
  · refine r_iconst (pc := 18) (0 : Int32) d_X12_seen_18 rfl ?_
    refine r_pick [0, 1, 2, 3] (ls' := [(0, .ref 102), (1, .int v1), (2, .int v2), (3, .int v3)]) rfl ?_
    exact s_X12_seen_19 hst h0 hd (0 : Int32) D1
  · refine r_iconst (pc := 14) (1 : Int32) d_X12_seen_14 rfl ?_
    refine r_goto (pc := 15) 19 d_X12_seen_15 (by decide) ?_
    refine r_pick [0, 1, 2, 3] (ls' := [(0, .ref 102), (1, .int v1), (2, .int v2), (3, .int v3)]) rfl ?_
    exact s_X12_seen_19 hst h0 hd (1 : Int32) D1
/-! CoveredSignsModel.guessBy -/
theorem d_X12_guessBy_0 : decode (yB m_X12_guessBy) 0 = .ok (.iconst 0, 1) := by decide +kernel
theorem d_X12_guessBy_1 : decode (yB m_X12_guessBy) 1 = .ok (.istore_n 3, 1) := by decide +kernel
theorem d_X12_guessBy_2 : decode (yB m_X12_guessBy) 2 = .ok (.iconst 0, 1) := by decide +kernel
theorem d_X12_guessBy_3 : decode (yB m_X12_guessBy) 3 = .ok (.istore 4, 2) := by decide +kernel
theorem d_X12_guessBy_5 : decode (yB m_X12_guessBy) 5 = .ok (.iload 4, 2) := by decide +kernel
theorem d_X12_guessBy_7 : decode (yB m_X12_guessBy) 7 = .ok (.aload_n 0, 1) := by decide +kernel
theorem d_X12_guessBy_8 : decode (yB m_X12_guessBy) 8 = .ok (.invokevirtual 242, 3) := by decide +kernel
theorem d_X12_guessBy_11 : decode (yB m_X12_guessBy) 11 = .ok (.if_icmp .ge 34, 3) := by decide +kernel
theorem d_X12_guessBy_14 : decode (yB m_X12_guessBy) 14 = .ok (.iload_n 3, 1) := by decide +kernel
theorem d_X12_guessBy_15 : decode (yB m_X12_guessBy) 15 = .ok (.iload_n 2, 1) := by decide +kernel
theorem d_X12_guessBy_16 : decode (yB m_X12_guessBy) 16 = .ok (.iload 4, 2) := by decide +kernel
theorem d_X12_guessBy_18 : decode (yB m_X12_guessBy) 18 = .ok (.aload_n 0, 1) := by decide +kernel
theorem d_X12_guessBy_19 : decode (yB m_X12_guessBy) 19 = .ok (.getfield 17, 3) := by decide +kernel
theorem d_X12_guessBy_22 : decode (yB m_X12_guessBy) 22 = .ok (.irem, 1) := by decide +kernel
theorem d_X12_guessBy_23 : decode (yB m_X12_guessBy) 23 = .ok (.ishr, 1) := by decide +kernel
theorem d_X12_guessBy_24 : decode (yB m_X12_guessBy) 24 = .ok (.iconst 1, 1) := by decide +kernel
theorem d_X12_guessBy_25 : decode (yB m_X12_guessBy) 25 = .ok (.iand, 1) := by decide +kernel
theorem d_X12_guessBy_26 : decode (yB m_X12_guessBy) 26 = .ok (.ifCond .ne 10, 3) := by decide +kernel
theorem d_X12_guessBy_29 : decode (yB m_X12_guessBy) 29 = .ok (.iconst 1, 1) := by decide +kernel
theorem d_X12_guessBy_30 : decode (yB m_X12_guessBy) 30 = .ok (.iload 4, 2) := by decide +kernel
theorem d_X12_guessBy_32 : decode (yB m_X12_guessBy) 32 = .ok (.ishl, 1) := by decide +kernel
theorem d_X12_guessBy_33 : decode (yB m_X12_guessBy) 33 = .ok (.goto 4, 3) := by decide +kernel
theorem d_X12_guessBy_36 : decode (yB m_X12_guessBy) 36 = .ok (.iconst 0, 1) := by decide +kernel
theorem d_X12_guessBy_37 : decode (yB m_X12_guessBy) 37 = .ok (.ior, 1) := by decide +kernel
theorem d_X12_guessBy_38 : decode (yB m_X12_guessBy) 38 = .ok (.istore_n 3, 1) := by decide +kernel
theorem d_X12_guessBy_39 : decode (yB m_X12_guessBy) 39 = .ok (.iinc 4 1, 3) := by decide +kernel
theorem d_X12_guessBy_42 : decode (yB m_X12_guessBy) 42 = .ok (.goto (-37), 3) := by decide +kernel
theorem d_X12_guessBy_45 : decode (yB m_X12_guessBy) 45 = .ok (.aload_n 0, 1) := by decide +kernel
theorem d_X12_guessBy_46 : decode (yB m_X12_guessBy) 46 = .ok (.iload_n 3, 1) := by decide +kernel
theorem d_X12_guessBy_47 : decode (yB m_X12_guessBy) 47 = .ok (.aload_n 0, 1) := by decide +kernel
theorem d_X12_guessBy_48 : decode (yB m_X12_guessBy) 48 = .ok (.getfield 26, 3) := by decide +kernel
theorem d_X12_guessBy_51 : decode (yB m_X12_guessBy) 51 = .ok (.aload_n 0, 1) := by decide +kernel
theorem d_X12_guessBy_52 : decode (yB m_X12_guessBy) 52 = .ok (.getfield 67, 3) := by decide +kernel
theorem d_X12_guessBy_55 : decode (yB m_X12_guessBy) 55 = .ok (.iload_n 1, 1) := by decide +kernel
theorem d_X12_guessBy_56 : decode (yB m_X12_guessBy) 56 = .ok (.aaload, 1) := by decide +kernel
theorem d_X12_guessBy_57 : decode (yB m_X12_guessBy) 57 = .ok (.iconst 0, 1) := by decide +kernel
theorem d_X12_guessBy_58 : decode (yB m_X12_guessBy) 58 = .ok (.iaload, 1) := by decide +kernel
theorem d_X12_guessBy_59 : decode (yB m_X12_guessBy) 59 = .ok (.iaload, 1) := by decide +kernel
theorem d_X12_guessBy_60 : decode (yB m_X12_guessBy) 60 = .ok (.invokevirtual 323, 3) := by decide +kernel
theorem d_X12_guessBy_63 : decode (yB m_X12_guessBy) 63 = .ok (.ireturn, 1) := by decide +kernel
def fn_X12_guessBy_45 (v1 : Int32) (v2 : Int32) (D : zD) (v3 : Int32) : Option Int32 := zck v1 8 <| zck (gI D (170 + v1.toNatClampNeg) 0) 12 <| (fn_X12_mayBe v3 (gI D 105 (gI D (170 + v1.toNatClampNeg) 0).toNatClampNeg) D).bind fun x5 => (some x5)
def fn_X12_guessBy_5 (v1 : Int32) (v2 : Int32) (D : zD) : Nat → Int32 → Int32 → Option Int32
  | 0, _, _ => none
  | n + 1, v3, v4 => (fn_X12_cells D).bind fun x1 => (if x1 ≤ v4 then ((fn_X12_guessBy_45 v1 v2 D v3)) else (zdv (gI D 102 14) <| (if ((v2 >>> ((v4 - v4 / (gI D 102 14) * (gI D 102 14)) &&& 31)) &&& (1 : Int32)) = 0 then (zlet (v3 ||| ((1 : Int32) <<< (v4 &&& 31))) fun x8 => ((fn_X12_guessBy_5 v1 v2 D n) x8 (v4 + (1 : Int32)))) else (zlet (v3 ||| (0 : Int32)) fun x7 => ((fn_X12_guessBy_5 v1 v2 D n) x7 (v4 + (1 : Int32)))))))
def fn_X12_guessBy (v1 : Int32) (v2 : Int32) (D : zD) : Option Int32 := (fn_X12_guessBy_5 v1 v2 D zFU (0 : Int32) (0 : Int32))
theorem s_X12_guessBy_45 {X : zX} {Sh : zSh} {d : Nat} (hst : (zl X).stackTraces = false) (h0 : zSh0 Sh) (hd : 2 ≤ d) {v1 : Int32} {v2 : Int32} (D : zD) (v3 : Int32)  : Rn X m_X12_guessBy (d + 1) 45 [(0, .ref 102), (1, .int v1), (3, .int v3)] [] (Sh, D) ((oP Sh D) (fn_X12_guessBy_45 v1 v2 D v3)) := by
  rw [fn_X12_guessBy_45]
  refine r_aload_n (pc := 45) 0 d_X12_guessBy_45 rfl rfl ?_
  refine r_iload_n (pc := 46) 2 d_X12_guessBy_46 rfl rfl ?_
  refine r_aload_n (pc := 47) 0 d_X12_guessBy_47 rfl rfl ?_
  refine r_getR (pc := 48) g_X12_26 (K_102 h0) rfl (R_102_19 h0) d_X12_guessBy_48 ?_
  refine r_aload_n (pc := 51) 0 d_X12_guessBy_51 rfl rfl ?_
  refine r_getR (pc := 52) g_X12_67 (K_102 h0) rfl (R_102_40 h0) d_X12_guessBy_52 ?_
  refine r_iload_n (pc := 55) 1 d_X12_guessBy_55 rfl rfl ?_
  refine r_ck (f := (oP Sh D)) rfl (fun hc3 => ?_)
  refine q_aald (pc := 56) (j := v1.toNatClampNeg) (K_169 h0) (Or.inl ⟨rfl, rfl⟩) hc3 rfl (RW_169 h0 _ (z_lt hc3)) d_X12_guessBy_56 ?_
  refine r_iconst (pc := 57) (0 : Int32) d_X12_guessBy_57 rfl ?_
  refine q_iald (pc := 58) (j := 0) (RK_169 h0 _ (z_lt hc3)) (by unfold vp_in; decide) rfl d_X12_guessBy_58 ?_
  refine r_ck (f := (oP Sh D)) rfl (fun hc4 => ?_)
  refine q_iald (pc := 59) (j := (gI D (170 + v1.toNatClampNeg) 0).toNatClampNeg) (K_105 h0) hc4 rfl d_X12_guessBy_59 ?_
  refine q_cP (f := (oP Sh D)) (av := [.ref 102, .int v3, .int (gI D 105 (gI D (170 + v1.toNatClampNeg) 0).toNatClampNeg)]) (st := []) (z_runV ck_X12_mayBe rfl ml_X12_323 ci_X12_mayBe cv_X12_mayBe (K_102 h0) (ci := 12) rfl rfl (Nat.le_of_ble_eq_true rfl) d_X12_guessBy_60) (s_X12_mayBe hst h0 (by omega)) kp_P (fun x5 _ => ?_)
  exact r_iret (pc := 63) rfl d_X12_guessBy_63
theorem s_X12_guessBy_5 {X : zX} {Sh : zSh} {d : Nat} (hst : (zl X).stackTraces = false) (h0 : zSh0 Sh) (hd : 2 ≤ d) {v1 : Int32} {v2 : Int32} (D : zD) : ∀ (n : Nat) (v3 : Int32) (v4 : Int32) , Rn X m_X12_guessBy (d + 1) 5 [(0, .ref 102), (1, .int v1), (2, .int v2), (3, .int v3), (4, .int v4)] [] (Sh, D) ((oP Sh D) (fn_X12_guessBy_5 v1 v2 D n v3 v4)) := by
  intro n
  induction n with
  | zero => intro v3 v4; exact Rn_none rfl
  | succ n hk5 =>
    intro v3 v4
    rw [fn_X12_guessBy_5]
    refine r_iload (pc := 5) 4 d_X12_guessBy_5 rfl ?_
    refine r_aload_n (pc := 7) 0 d_X12_guessBy_7 rfl rfl ?_
    refine q_cP (f := (oP Sh D)) (av := [.ref 102]) (st := [.int v4]) (z_runV ck_X12_cells rfl ml_X12_242 ci_X12_cells cv_X12_cells (K_102 h0) (ci := 12) rfl rfl (Nat.le_of_ble_eq_true rfl) d_X12_guessBy_8) (s_X12_cells hst h0 (by omega)) kp_P (fun x1 _ => ?_)
    refine r_icmp_ge (f := (oP Sh D)) (pc := 11) 45 d_X12_guessBy_11 (by decide) (fun c2 => ?_) (fun c2 => ?_)
    · refine r_pick [0, 1, 3] (ls' := [(0, .ref 102), (1, .int v1), (3, .int v3)]) rfl ?_
      exact s_X12_guessBy_45 hst h0 hd D v3
    · refine r_iload_n (pc := 14) 3 d_X12_guessBy_14 rfl rfl ?_
      refine r_iload_n (pc := 15) 2 d_X12_guessBy_15 rfl rfl ?_
      refine r_iload (pc := 16) 4 d_X12_guessBy_16 rfl ?_
      refine r_aload_n (pc := 18) 0 d_X12_guessBy_18 rfl rfl ?_
      refine q_gI (pc := 19) g_X12_17 (K_102 h0) rfl d_X12_guessBy_19 ?_
      refine r_irem (f := (oP Sh D)) (pc := 22) d_X12_guessBy_22 rfl ?_
      refine r_ishr (pc := 23) d_X12_guessBy_23 ?_
      refine r_iconst (pc := 24) (1 : Int32) d_X12_guessBy_24 rfl ?_
      refine r_iand (pc := 25) d_X12_guessBy_25 ?_
      refine r_if_ne (f := (oP Sh D)) (pc := 26) 36 d_X12_guessBy_26 (by decide) (fun c6 => ?_) (fun c6 => ?_)
      · refine r_iconst (pc := 36) (0 : Int32) d_X12_guessBy_36 rfl ?_
        refine r_ior (pc := 37) d_X12_guessBy_37 ?_
        refine r_leti (f := (oP Sh D)) (fun x7 => ?_)
        refine r_istore_n (pc := 38) (ls' := [(3, .int x7), (0, .ref 102), (1, .int v1), (2, .int v2), (4, .int v4)]) d_X12_guessBy_38 rfl (Nat.le_of_ble_eq_true rfl) rfl ?_
        refine r_iinc (pc := 39) ((v4 + (1 : Int32))) 4 (ls' := [(4, .int (v4 + (1 : Int32))), (3, .int x7), (0, .ref 102), (1, .int v1), (2, .int v2)]) d_X12_guessBy_39 rfl rfl (Nat.le_of_ble_eq_true rfl) rfl ?_
        refine r_goto (pc := 42) 5 d_X12_guessBy_42 (by decide) ?_
        refine r_pick [2, 3, 4, 1, 0] (ls' := [(0, .ref 102), (1, .int v1), (2, .int v2), (3, .int x7), (4, .int (v4 + (1 : Int32)))]) rfl ?_
        exact hk5 x7 (v4 + (1 : Int32)) 
      · refine r_iconst (pc := 29) (1 : Int32) d_X12_guessBy_29 rfl ?_
        refine r_iload (pc := 30) 4 d_X12_guessBy_30 rfl ?_
        refine r_ishl (pc := 32) d_X12_guessBy_32 ?_
        refine r_goto (pc := 33) 37 d_X12_guessBy_33 (by decide) ?_
        refine r_ior (pc := 37) d_X12_guessBy_37 ?_
        refine r_leti (f := (oP Sh D)) (fun x8 => ?_)
        refine r_istore_n (pc := 38) (ls' := [(3, .int x8), (0, .ref 102), (1, .int v1), (2, .int v2), (4, .int v4)]) d_X12_guessBy_38 rfl (Nat.le_of_ble_eq_true rfl) rfl ?_
        refine r_iinc (pc := 39) ((v4 + (1 : Int32))) 4 (ls' := [(4, .int (v4 + (1 : Int32))), (3, .int x8), (0, .ref 102), (1, .int v1), (2, .int v2)]) d_X12_guessBy_39 rfl rfl (Nat.le_of_ble_eq_true rfl) rfl ?_
        refine r_goto (pc := 42) 5 d_X12_guessBy_42 (by decide) ?_
        refine r_pick [2, 3, 4, 1, 0] (ls' := [(0, .ref 102), (1, .int v1), (2, .int v2), (3, .int x8), (4, .int (v4 + (1 : Int32)))]) rfl ?_
        exact hk5 x8 (v4 + (1 : Int32)) 
theorem s_X12_guessBy {X : zX} {Sh : zSh} {d : Nat} (hst : (zl X).stackTraces = false) (h0 : zSh0 Sh) (hd : 3 ≤ d) {v1 : Int32} {v2 : Int32} {D : zD} : Sd X m_X12_guessBy d [.ref 102, .int v1, .int v2] (Sh, D) ((oP Sh D) (fn_X12_guessBy v1 v2 D)) := by
  obtain ⟨d, rfl⟩ : ∃ e, d = e + 1 := ⟨d - 1, by omega⟩
  replace hd : 2 ≤ d := by omega
  refine z_body ck_X12_guessBy rfl (Nat.le_of_ble_eq_true rfl) rfl hst ?_
  rw [fn_X12_guessBy]
  show Rn X m_X12_guessBy (d + 1) 0 [(0, .ref 102), (1, .int v1), (2, .int v2)] [] (Sh, D) _
  refine r_iconst (pc := 0) (0 : Int32) d_X12_guessBy_0 rfl ?_
  refine r_istore_n (pc := 1) (ls' := [(3, .int (0 : Int32)), (0, .ref 102), (1, .int v1), (2, .int v2)]) d_X12_guessBy_1 rfl (Nat.le_of_ble_eq_true rfl) rfl ?_
  refine r_iconst (pc := 2) (0 : Int32) d_X12_guessBy_2 rfl ?_
  refine r_istore (pc := 3) (ls' := [(4, .int (0 : Int32)), (3, .int (0 : Int32)), (0, .ref 102), (1, .int v1), (2, .int v2)]) d_X12_guessBy_3 (Nat.le_of_ble_eq_true rfl) rfl ?_
  refine r_pick [2, 3, 4, 1, 0] (ls' := [(0, .ref 102), (1, .int v1), (2, .int v2), (3, .int (0 : Int32)), (4, .int (0 : Int32))]) rfl ?_
  exact s_X12_guessBy_5 hst h0 hd D zFU  (0 : Int32) (0 : Int32)
/-! CoveredSignsModel.guess -/
theorem d_X12_guess_0 : decode (yB m_X12_guess) 0 = .ok (.aload_n 0, 1) := by decide +kernel
theorem d_X12_guess_1 : decode (yB m_X12_guess) 1 = .ok (.iconst 0, 1) := by decide +kernel
theorem d_X12_guess_2 : decode (yB m_X12_guess) 2 = .ok (.putfield 113, 3) := by decide +kernel
theorem d_X12_guess_5 : decode (yB m_X12_guess) 5 = .ok (.aload_n 0, 1) := by decide +kernel
theorem d_X12_guess_6 : decode (yB m_X12_guess) 6 = .ok (.aload_n 0, 1) := by decide +kernel
theorem d_X12_guess_7 : decode (yB m_X12_guess) 7 = .ok (.iload_n 1, 1) := by decide +kernel
theorem d_X12_guess_8 : decode (yB m_X12_guess) 8 = .ok (.invokevirtual 385, 3) := by decide +kernel
theorem d_X12_guess_11 : decode (yB m_X12_guess) 11 = .ok (.ifCond .ne 7, 3) := by decide +kernel
theorem d_X12_guess_14 : decode (yB m_X12_guess) 14 = .ok (.iconst 1, 1) := by decide +kernel
theorem d_X12_guess_15 : decode (yB m_X12_guess) 15 = .ok (.goto 4, 3) := by decide +kernel
theorem d_X12_guess_18 : decode (yB m_X12_guess) 18 = .ok (.iconst 0, 1) := by decide +kernel
theorem d_X12_guess_19 : decode (yB m_X12_guess) 19 = .ok (.iconst 1, 1) := by decide +kernel
theorem d_X12_guess_20 : decode (yB m_X12_guess) 20 = .ok (.invokevirtual 214, 3) := by decide +kernel
theorem d_X12_guess_23 : decode (yB m_X12_guess) 23 = .ok (.ifCond .ne 26, 3) := by decide +kernel
theorem d_X12_guess_26 : decode (yB m_X12_guess) 26 = .ok (.aload_n 0, 1) := by decide +kernel
theorem d_X12_guess_27 : decode (yB m_X12_guess) 27 = .ok (.iload_n 2, 1) := by decide +kernel
theorem d_X12_guess_28 : decode (yB m_X12_guess) 28 = .ok (.iconst 0, 1) := by decide +kernel
theorem d_X12_guess_29 : decode (yB m_X12_guess) 29 = .ok (.bipush 99, 2) := by decide +kernel
theorem d_X12_guess_31 : decode (yB m_X12_guess) 31 = .ok (.invokestatic 147, 3) := by decide +kernel
theorem d_X12_guess_34 : decode (yB m_X12_guess) 34 = .ok (.ifCond .ne 7, 3) := by decide +kernel
theorem d_X12_guess_37 : decode (yB m_X12_guess) 37 = .ok (.iconst 1, 1) := by decide +kernel
theorem d_X12_guess_38 : decode (yB m_X12_guess) 38 = .ok (.goto 4, 3) := by decide +kernel
theorem d_X12_guess_41 : decode (yB m_X12_guess) 41 = .ok (.iconst 0, 1) := by decide +kernel
theorem d_X12_guess_42 : decode (yB m_X12_guess) 42 = .ok (.iconst 2, 1) := by decide +kernel
theorem d_X12_guess_43 : decode (yB m_X12_guess) 43 = .ok (.invokevirtual 214, 3) := by decide +kernel
theorem d_X12_guess_46 : decode (yB m_X12_guess) 46 = .ok (.ifCond .eq 5, 3) := by decide +kernel
theorem d_X12_guess_49 : decode (yB m_X12_guess) 49 = .ok (.iconst 0, 1) := by decide +kernel
theorem d_X12_guess_50 : decode (yB m_X12_guess) 50 = .ok (.ireturn, 1) := by decide +kernel
theorem d_X12_guess_51 : decode (yB m_X12_guess) 51 = .ok (.aload_n 0, 1) := by decide +kernel
theorem d_X12_guess_52 : decode (yB m_X12_guess) 52 = .ok (.iload_n 1, 1) := by decide +kernel
theorem d_X12_guess_53 : decode (yB m_X12_guess) 53 = .ok (.aload_n 0, 1) := by decide +kernel
theorem d_X12_guess_54 : decode (yB m_X12_guess) 54 = .ok (.iload_n 1, 1) := by decide +kernel
theorem d_X12_guess_55 : decode (yB m_X12_guess) 55 = .ok (.iload_n 2, 1) := by decide +kernel
theorem d_X12_guess_56 : decode (yB m_X12_guess) 56 = .ok (.iload_n 3, 1) := by decide +kernel
theorem d_X12_guess_57 : decode (yB m_X12_guess) 57 = .ok (.invokevirtual 388, 3) := by decide +kernel
theorem d_X12_guess_60 : decode (yB m_X12_guess) 60 = .ok (.invokevirtual 392, 3) := by decide +kernel
theorem d_X12_guess_63 : decode (yB m_X12_guess) 63 = .ok (.ireturn, 1) := by decide +kernel
def fn_X12_guess_42 (v1 : Int32) (v2 : Int32) (v3 : Int32) (w1 : Int32) (D : zD) : Option (Int32 × zD) := (fn_X12_bad w1 (2 : Int32) D).bind fun q8 => (if q8.1 = 0 then ((fn_X12_seenOf v1 v2 v3 q8.2).bind fun x10 => (fn_X12_guessBy v1 x10 q8.2).bind fun x11 => (some (x11, q8.2))) else ((some ((0 : Int32), q8.2))))
def fn_X12_guess_19 (v1 : Int32) (v2 : Int32) (v3 : Int32) (w1 : Int32) (D : zD) : Option (Int32 × zD) := (fn_X12_bad w1 (1 : Int32) D).bind fun q4 => (if q4.1 = 0 then ((fn_X12_in v2 (0 : Int32) (99 : Int32)).bind fun x6 => (if x6 = 0 then ((fn_X12_guess_42 v1 v2 v3 (1 : Int32) q4.2)) else ((fn_X12_guess_42 v1 v2 v3 (0 : Int32) q4.2)))) else ((some ((0 : Int32), q4.2))))
def fn_X12_guess (v1 : Int32) (v2 : Int32) (v3 : Int32) (D : zD) : Option (Int32 × zD) := zlet (sI D 102 0 (0 : Int32)) fun D1 => (fn_X12_isStanding v1 D1).bind fun x2 => (if x2 = 0 then ((fn_X12_guess_19 v1 v2 v3 (1 : Int32) D1)) else ((fn_X12_guess_19 v1 v2 v3 (0 : Int32) D1)))
theorem s_X12_guess_42 {X : zX} {Sh : zSh} {d : Nat} (hst : (zl X).stackTraces = false) (h0 : zSh0 Sh) (hd : 3 ≤ d) {v1 : Int32} {v2 : Int32} {v3 : Int32} (w1 : Int32) (D : zD)  : Rn X m_X12_guess (d + 1) 42 [(0, .ref 102), (1, .int v1), (2, .int v2), (3, .int v3)] [.int w1, .ref 102] (Sh, D) ((oI Sh) (fn_X12_guess_42 v1 v2 v3 w1 D)) := by
  rw [fn_X12_guess_42]
  refine r_iconst (pc := 42) (2 : Int32) d_X12_guess_42 rfl ?_
  refine q_cI (f := (oI Sh)) (av := [.ref 102, .int w1, .int (2 : Int32)]) (st := []) (z_runV ck_X12_bad rfl ml_X12_214 ci_X12_bad cv_X12_bad (K_102 h0) (ci := 12) rfl rfl (Nat.le_of_ble_eq_true rfl) d_X12_guess_43) (s_X12_bad hst h0 (by omega)) kp_I (fun q8 _ => ?_)
  refine r_if_eq (f := (oI Sh)) (pc := 46) 51 d_X12_guess_46 (by decide) (fun c9 => ?_) (fun c9 => ?_)
  · refine r_aload_n (pc := 51) 0 d_X12_guess_51 rfl rfl ?_
    refine r_iload_n (pc := 52) 1 d_X12_guess_52 rfl rfl ?_
    refine r_aload_n (pc := 53) 0 d_X12_guess_53 rfl rfl ?_
    refine r_iload_n (pc := 54) 1 d_X12_guess_54 rfl rfl ?_
    refine r_iload_n (pc := 55) 2 d_X12_guess_55 rfl rfl ?_
    refine r_iload_n (pc := 56) 3 d_X12_guess_56 rfl rfl ?_
    refine q_cP (f := (oI Sh)) (av := [.ref 102, .int v1, .int v2, .int v3]) (st := [.int v1, .ref 102]) (z_runV ck_X12_seenOf rfl ml_X12_388 ci_X12_seenOf cv_X12_seenOf (K_102 h0) (ci := 12) rfl rfl (Nat.le_of_ble_eq_true rfl) d_X12_guess_57) (s_X12_seenOf hst h0 (by omega)) kp_I (fun x10 _ => ?_)
    refine q_cP (f := (oI Sh)) (av := [.ref 102, .int v1, .int x10]) (st := []) (z_runV ck_X12_guessBy rfl ml_X12_392 ci_X12_guessBy cv_X12_guessBy (K_102 h0) (ci := 12) rfl rfl (Nat.le_of_ble_eq_true rfl) d_X12_guess_60) (s_X12_guessBy hst h0 (by omega)) kp_I (fun x11 _ => ?_)
    exact r_iret (pc := 63) rfl d_X12_guess_63
  · refine r_iconst (pc := 49) (0 : Int32) d_X12_guess_49 rfl ?_
    exact r_iret (pc := 50) rfl d_X12_guess_50
theorem s_X12_guess_19 {X : zX} {Sh : zSh} {d : Nat} (hst : (zl X).stackTraces = false) (h0 : zSh0 Sh) (hd : 3 ≤ d) {v1 : Int32} {v2 : Int32} {v3 : Int32} (w1 : Int32) (D : zD)  : Rn X m_X12_guess (d + 1) 19 [(0, .ref 102), (1, .int v1), (2, .int v2), (3, .int v3)] [.int w1, .ref 102] (Sh, D) ((oI Sh) (fn_X12_guess_19 v1 v2 v3 w1 D)) := by
  rw [fn_X12_guess_19]
  refine r_iconst (pc := 19) (1 : Int32) d_X12_guess_19 rfl ?_
  refine q_cI (f := (oI Sh)) (av := [.ref 102, .int w1, .int (1 : Int32)]) (st := []) (z_runV ck_X12_bad rfl ml_X12_214 ci_X12_bad cv_X12_bad (K_102 h0) (ci := 12) rfl rfl (Nat.le_of_ble_eq_true rfl) d_X12_guess_20) (s_X12_bad hst h0 (by omega)) kp_I (fun q4 _ => ?_)
  refine r_if_ne (f := (oI Sh)) (pc := 23) 49 d_X12_guess_23 (by decide) (fun c5 => ?_) (fun c5 => ?_)
  · refine r_iconst (pc := 49) (0 : Int32) d_X12_guess_49 rfl ?_
    exact r_iret (pc := 50) rfl d_X12_guess_50
  · refine r_aload_n (pc := 26) 0 d_X12_guess_26 rfl rfl ?_
    refine r_iload_n (pc := 27) 2 d_X12_guess_27 rfl rfl ?_
    refine r_iconst (pc := 28) (0 : Int32) d_X12_guess_28 rfl ?_
    refine r_bipush (pc := 29) (99 : Int32) d_X12_guess_29 rfl ?_
    refine q_cP (f := (oI Sh)) (av := [.int v2, .int (0 : Int32), .int (99 : Int32)]) (st := [.ref 102]) (z_runS ck_X12_in rfl ml_X12_147 cs_X12_in rfl (Nat.le_of_ble_eq_true rfl) d_X12_guess_31) (s_X12_in hst h0 (by omega)) kp_I (fun x6 _ => ?_)
    refine r_if_ne (f := (oI Sh)) (pc := 34) 41 d_X12_guess_34 (by decide) (fun c7 => ?_) (fun c7 => ?_)
    · refine r_iconst (pc := 41) (0 : Int32) d_X12_guess_41 rfl ?_
      refine r_pick [0, 1, 2, 3] (ls' := [(0, .ref 102), (1, .int v1), (2, .int v2), (3, .int v3)]) rfl ?_
      exact s_X12_guess_42 hst h0 hd (0 : Int32) q4.2
    · refine r_iconst (pc := 37) (1 : Int32) d_X12_guess_37 rfl ?_
      refine r_goto (pc := 38) 42 d_X12_guess_38 (by decide) ?_
      refine r_pick [0, 1, 2, 3] (ls' := [(0, .ref 102), (1, .int v1), (2, .int v2), (3, .int v3)]) rfl ?_
      exact s_X12_guess_42 hst h0 hd (1 : Int32) q4.2
theorem s_X12_guess {X : zX} {Sh : zSh} {d : Nat} (hst : (zl X).stackTraces = false) (h0 : zSh0 Sh) (hd : 4 ≤ d) {v1 : Int32} {v2 : Int32} {v3 : Int32} {D : zD} : Sd X m_X12_guess d [.ref 102, .int v1, .int v2, .int v3] (Sh, D) ((oI Sh) (fn_X12_guess v1 v2 v3 D)) := by
  obtain ⟨d, rfl⟩ : ∃ e, d = e + 1 := ⟨d - 1, by omega⟩
  replace hd : 3 ≤ d := by omega
  refine z_body ck_X12_guess rfl (Nat.le_of_ble_eq_true rfl) rfl hst ?_
  rw [fn_X12_guess]
  show Rn X m_X12_guess (d + 1) 0 [(0, .ref 102), (1, .int v1), (2, .int v2), (3, .int v3)] [] (Sh, D) _
  refine r_aload_n (pc := 0) 0 d_X12_guess_0 rfl rfl ?_
  refine r_iconst (pc := 1) (0 : Int32) d_X12_guess_1 rfl ?_
  refine r_putI (pc := 2) p_X12_113 (K_102 h0) rfl (Or.inl rfl) d_X12_guess_2 ?_
  refine r_letD (f := (oI Sh)) (fun D1 => ?_)
  refine r_aload_n (pc := 5) 0 d_X12_guess_5 rfl rfl ?_
  refine r_aload_n (pc := 6) 0 d_X12_guess_6 rfl rfl ?_
  refine r_iload_n (pc := 7) 1 d_X12_guess_7 rfl rfl ?_
  refine q_cP (f := (oI Sh)) (av := [.ref 102, .int v1]) (st := [.ref 102]) (z_runV ck_X12_isStanding rfl ml_X12_385 ci_X12_isStanding cv_X12_isStanding (K_102 h0) (ci := 12) rfl rfl (Nat.le_of_ble_eq_true rfl) d_X12_guess_8) (s_X12_isStanding hst h0 (by omega)) kp_I (fun x2 _ => ?_)
  refine r_if_ne (f := (oI Sh)) (pc := 11) 18 d_X12_guess_11 (by decide) (fun c3 => ?_) (fun c3 => ?_)
  · refine r_iconst (pc := 18) (0 : Int32) d_X12_guess_18 rfl ?_
    refine r_pick [0, 1, 2, 3] (ls' := [(0, .ref 102), (1, .int v1), (2, .int v2), (3, .int v3)]) rfl ?_
    exact s_X12_guess_19 hst h0 hd (0 : Int32) D1
  · refine r_iconst (pc := 14) (1 : Int32) d_X12_guess_14 rfl ?_
    refine r_goto (pc := 15) 19 d_X12_guess_15 (by decide) ?_
    refine r_pick [0, 1, 2, 3] (ls' := [(0, .ref 102), (1, .int v1), (2, .int v2), (3, .int v3)]) rfl ?_
    exact s_X12_guess_19 hst h0 hd (1 : Int32) D1
/-! CoveredSignsModel.layNone -/
theorem d_X12_layNone_0 : decode (yB m_X12_layNone) 0 = .ok (.iconst 0, 1) := by decide +kernel
theorem d_X12_layNone_1 : decode (yB m_X12_layNone) 1 = .ok (.istore_n 1, 1) := by decide +kernel
theorem d_X12_layNone_2 : decode (yB m_X12_layNone) 2 = .ok (.iload_n 1, 1) := by decide +kernel
theorem d_X12_layNone_3 : decode (yB m_X12_layNone) 3 = .ok (.bipush 8, 2) := by decide +kernel
theorem d_X12_layNone_5 : decode (yB m_X12_layNone) 5 = .ok (.if_icmp .ge 16, 3) := by decide +kernel
theorem d_X12_layNone_8 : decode (yB m_X12_layNone) 8 = .ok (.aload_n 0, 1) := by decide +kernel
theorem d_X12_layNone_9 : decode (yB m_X12_layNone) 9 = .ok (.getfield 107, 3) := by decide +kernel
theorem d_X12_layNone_12 : decode (yB m_X12_layNone) 12 = .ok (.iload_n 1, 1) := by decide +kernel
theorem d_X12_layNone_13 : decode (yB m_X12_layNone) 13 = .ok (.iconst 0, 1) := by decide +kernel
theorem d_X12_layNone_14 : decode (yB m_X12_layNone) 14 = .ok (.iastore, 1) := by decide +kernel
theorem d_X12_layNone_15 : decode (yB m_X12_layNone) 15 = .ok (.iinc 1 1, 3) := by decide +kernel
theorem d_X12_layNone_18 : decode (yB m_X12_layNone) 18 = .ok (.goto (-16), 3) := by decide +kernel
theorem d_X12_layNone_21 : decode (yB m_X12_layNone) 21 = .ok (.return_, 1) := by decide +kernel
def fn_X12_layNone_2  : Nat → Int32 → zD → Option zD
  | 0, _, _ => none
  | n + 1, v1, D => (if (8 : Int32) ≤ v1 then ((some D)) else (zck v1 8 <| zlet (sI D 204 v1.toNatClampNeg (0 : Int32)) fun D3 => ((fn_X12_layNone_2  n) (v1 + (1 : Int32)) D3)))
def fn_X12_layNone (D : zD) : Option zD := (fn_X12_layNone_2 zFU (0 : Int32) D)
theorem s_X12_layNone_2 {X : zX} {Sh : zSh} {d : Nat} (hst : (zl X).stackTraces = false) (h0 : zSh0 Sh) (hd : 0 ≤ d)  : ∀ (n : Nat) (v1 : Int32) (D : zD) , Rn X m_X12_layNone (d + 1) 2 [(0, .ref 102), (1, .int v1)] [] (Sh, D) ((oV Sh) (fn_X12_layNone_2  n v1 D)) := by
  intro n
  induction n with
  | zero => intro v1 D; exact Rn_none rfl
  | succ n hk2 =>
    intro v1 D
    rw [fn_X12_layNone_2]
    refine r_iload_n (pc := 2) 1 d_X12_layNone_2 rfl rfl ?_
    refine r_bipush (pc := 3) (8 : Int32) d_X12_layNone_3 rfl ?_
    refine r_icmp_ge (f := (oV Sh)) (pc := 5) 21 d_X12_layNone_5 (by decide) (fun c1 => ?_) (fun c1 => ?_)
    · exact r_vret (pc := 21) rfl d_X12_layNone_21
    · refine r_aload_n (pc := 8) 0 d_X12_layNone_8 rfl rfl ?_
      refine r_getR (pc := 9) g_X12_107 (K_102 h0) rfl (R_102_55 h0) d_X12_layNone_9 ?_
      refine r_iload_n (pc := 12) 1 d_X12_layNone_12 rfl rfl ?_
      refine r_iconst (pc := 13) (0 : Int32) d_X12_layNone_13 rfl ?_
      refine r_ck (f := (oV Sh)) rfl (fun hc2 => ?_)
      refine q_iast (pc := 14) (j := v1.toNatClampNeg) (K_204 h0) hc2 rfl  d_X12_layNone_14 ?_
      refine r_letD (f := (oV Sh)) (fun D3 => ?_)
      refine r_iinc (pc := 15) ((v1 + (1 : Int32))) 1 (ls' := [(1, .int (v1 + (1 : Int32))), (0, .ref 102)]) d_X12_layNone_15 rfl rfl (Nat.le_of_ble_eq_true rfl) rfl ?_
      refine r_goto (pc := 18) 2 d_X12_layNone_18 (by decide) ?_
      refine r_pick [1, 0] (ls' := [(0, .ref 102), (1, .int (v1 + (1 : Int32)))]) rfl ?_
      exact hk2 (v1 + (1 : Int32)) D3 
theorem s_X12_layNone {X : zX} {Sh : zSh} {d : Nat} (hst : (zl X).stackTraces = false) (h0 : zSh0 Sh) (hd : 1 ≤ d)  {D : zD} : Sd X m_X12_layNone d [.ref 102] (Sh, D) ((oV Sh) (fn_X12_layNone D)) := by
  obtain ⟨d, rfl⟩ : ∃ e, d = e + 1 := ⟨d - 1, by omega⟩
  replace hd : 0 ≤ d := by omega
  refine z_body ck_X12_layNone rfl (Nat.le_of_ble_eq_true rfl) rfl hst ?_
  rw [fn_X12_layNone]
  show Rn X m_X12_layNone (d + 1) 0 [(0, .ref 102)] [] (Sh, D) _
  refine r_iconst (pc := 0) (0 : Int32) d_X12_layNone_0 rfl ?_
  refine r_istore_n (pc := 1) (ls' := [(1, .int (0 : Int32)), (0, .ref 102)]) d_X12_layNone_1 rfl (Nat.le_of_ble_eq_true rfl) rfl ?_
  refine r_pick [1, 0] (ls' := [(0, .ref 102), (1, .int (0 : Int32))]) rfl ?_
  exact s_X12_layNone_2 hst h0 hd zFU  (0 : Int32) D
/-! CoveredSignsModel.guessNow -/
theorem d_X12_guessNow_0 : decode (yB m_X12_guessNow) 0 = .ok (.aload_n 0, 1) := by decide +kernel
theorem d_X12_guessNow_1 : decode (yB m_X12_guessNow) 1 = .ok (.getfield 107, 3) := by decide +kernel
theorem d_X12_guessNow_4 : decode (yB m_X12_guessNow) 4 = .ok (.iload_n 1, 1) := by decide +kernel
theorem d_X12_guessNow_5 : decode (yB m_X12_guessNow) 5 = .ok (.iload_n 3, 1) := by decide +kernel
theorem d_X12_guessNow_6 : decode (yB m_X12_guessNow) 6 = .ok (.ifCond .eq 19, 3) := by decide +kernel
theorem d_X12_guessNow_9 : decode (yB m_X12_guessNow) 9 = .ok (.aload_n 0, 1) := by decide +kernel
theorem d_X12_guessNow_10 : decode (yB m_X12_guessNow) 10 = .ok (.getfield 107, 3) := by decide +kernel
theorem d_X12_guessNow_13 : decode (yB m_X12_guessNow) 13 = .ok (.iload_n 1, 1) := by decide +kernel
theorem d_X12_guessNow_14 : decode (yB m_X12_guessNow) 14 = .ok (.iaload, 1) := by decide +kernel
theorem d_X12_guessNow_15 : decode (yB m_X12_guessNow) 15 = .ok (.aload_n 0, 1) := by decide +kernel
theorem d_X12_guessNow_16 : decode (yB m_X12_guessNow) 16 = .ok (.iload_n 1, 1) := by decide +kernel
theorem d_X12_guessNow_17 : decode (yB m_X12_guessNow) 17 = .ok (.iload_n 2, 1) := by decide +kernel
theorem d_X12_guessNow_18 : decode (yB m_X12_guessNow) 18 = .ok (.invokevirtual 382, 3) := by decide +kernel
theorem d_X12_guessNow_21 : decode (yB m_X12_guessNow) 21 = .ok (.ior, 1) := by decide +kernel
theorem d_X12_guessNow_22 : decode (yB m_X12_guessNow) 22 = .ok (.goto 9, 3) := by decide +kernel
theorem d_X12_guessNow_25 : decode (yB m_X12_guessNow) 25 = .ok (.aload_n 0, 1) := by decide +kernel
theorem d_X12_guessNow_26 : decode (yB m_X12_guessNow) 26 = .ok (.iload_n 1, 1) := by decide +kernel
theorem d_X12_guessNow_27 : decode (yB m_X12_guessNow) 27 = .ok (.iload_n 2, 1) := by decide +kernel
theorem d_X12_guessNow_28 : decode (yB m_X12_guessNow) 28 = .ok (.invokevirtual 382, 3) := by decide +kernel
theorem d_X12_guessNow_31 : decode (yB m_X12_guessNow) 31 = .ok (.iastore, 1) := by decide +kernel
theorem d_X12_guessNow_32 : decode (yB m_X12_guessNow) 32 = .ok (.aload_n 0, 1) := by decide +kernel
theorem d_X12_guessNow_33 : decode (yB m_X12_guessNow) 33 = .ok (.iload_n 1, 1) := by decide +kernel
theorem d_X12_guessNow_34 : decode (yB m_X12_guessNow) 34 = .ok (.aload_n 0, 1) := by decide +kernel
theorem d_X12_guessNow_35 : decode (yB m_X12_guessNow) 35 = .ok (.getfield 107, 3) := by decide +kernel
theorem d_X12_guessNow_38 : decode (yB m_X12_guessNow) 38 = .ok (.iload_n 1, 1) := by decide +kernel
theorem d_X12_guessNow_39 : decode (yB m_X12_guessNow) 39 = .ok (.iaload, 1) := by decide +kernel
theorem d_X12_guessNow_40 : decode (yB m_X12_guessNow) 40 = .ok (.invokevirtual 392, 3) := by decide +kernel
theorem d_X12_guessNow_43 : decode (yB m_X12_guessNow) 43 = .ok (.ireturn, 1) := by decide +kernel
def fn_X12_guessNow_31 (v1 : Int32) (v2 : Int32) (v3 : Int32) (w1 : Int32) (w2 : Int32) (D : zD) : Option (Int32 × zD) := zck w1 8 <| zlet (sI D 204 w1.toNatClampNeg w2) fun D4 => zck v1 8 <| (fn_X12_guessBy v1 (gI D4 204 v1.toNatClampNeg) D4).bind fun x6 => (some (x6, D4))
def fn_X12_guessNow (v1 : Int32) (v2 : Int32) (v3 : Int32) (D : zD) : Option (Int32 × zD) := (if v3 = 0 then ((fn_X12_seenFrom v1 v2 D).bind fun x2 => (fn_X12_guessNow_31 v1 v2 v3 v1 x2 D)) else (zck v1 8 <| (fn_X12_seenFrom v1 v2 D).bind fun x8 => (fn_X12_guessNow_31 v1 v2 v3 v1 ((gI D 204 v1.toNatClampNeg) ||| x8) D)))
theorem s_X12_guessNow_31 {X : zX} {Sh : zSh} {d : Nat} (hst : (zl X).stackTraces = false) (h0 : zSh0 Sh) (hd : 3 ≤ d) {v1 : Int32} {v2 : Int32} {v3 : Int32} (w1 : Int32) (w2 : Int32) (D : zD)  : Rn X m_X12_guessNow (d + 1) 31 [(0, .ref 102), (1, .int v1)] [.int w2, .int w1, .ref 204] (Sh, D) ((oI Sh) (fn_X12_guessNow_31 v1 v2 v3 w1 w2 D)) := by
  rw [fn_X12_guessNow_31]
  refine r_ck (f := (oI Sh)) rfl (fun hc3 => ?_)
  refine q_iast (pc := 31) (j := w1.toNatClampNeg) (K_204 h0) hc3 rfl  d_X12_guessNow_31 ?_
  refine r_letD (f := (oI Sh)) (fun D4 => ?_)
  refine r_aload_n (pc := 32) 0 d_X12_guessNow_32 rfl rfl ?_
  refine r_iload_n (pc := 33) 1 d_X12_guessNow_33 rfl rfl ?_
  refine r_aload_n (pc := 34) 0 d_X12_guessNow_34 rfl rfl ?_
  refine r_getR (pc := 35) g_X12_107 (K_102 h0) rfl (R_102_55 h0) d_X12_guessNow_35 ?_
  refine r_iload_n (pc := 38) 1 d_X12_guessNow_38 rfl rfl ?_
  refine r_ck (f := (oI Sh)) rfl (fun hc5 => ?_)
  refine q_iald (pc := 39) (j := v1.toNatClampNeg) (K_204 h0) hc5 rfl d_X12_guessNow_39 ?_
  refine q_cP (f := (oI Sh)) (av := [.ref 102, .int v1, .int (gI D4 204 v1.toNatClampNeg)]) (st := []) (z_runV ck_X12_guessBy rfl ml_X12_392 ci_X12_guessBy cv_X12_guessBy (K_102 h0) (ci := 12) rfl rfl (Nat.le_of_ble_eq_true rfl) d_X12_guessNow_40) (s_X12_guessBy hst h0 (by omega)) kp_I (fun x6 _ => ?_)
  exact r_iret (pc := 43) rfl d_X12_guessNow_43
theorem s_X12_guessNow {X : zX} {Sh : zSh} {d : Nat} (hst : (zl X).stackTraces = false) (h0 : zSh0 Sh) (hd : 4 ≤ d) {v1 : Int32} {v2 : Int32} {v3 : Int32} {D : zD} : Sd X m_X12_guessNow d [.ref 102, .int v1, .int v2, .int v3] (Sh, D) ((oI Sh) (fn_X12_guessNow v1 v2 v3 D)) := by
  obtain ⟨d, rfl⟩ : ∃ e, d = e + 1 := ⟨d - 1, by omega⟩
  replace hd : 3 ≤ d := by omega
  refine z_body ck_X12_guessNow rfl (Nat.le_of_ble_eq_true rfl) rfl hst ?_
  rw [fn_X12_guessNow]
  show Rn X m_X12_guessNow (d + 1) 0 [(0, .ref 102), (1, .int v1), (2, .int v2), (3, .int v3)] [] (Sh, D) _
  refine r_aload_n (pc := 0) 0 d_X12_guessNow_0 rfl rfl ?_
  refine r_getR (pc := 1) g_X12_107 (K_102 h0) rfl (R_102_55 h0) d_X12_guessNow_1 ?_
  refine r_iload_n (pc := 4) 1 d_X12_guessNow_4 rfl rfl ?_
  refine r_iload_n (pc := 5) 3 d_X12_guessNow_5 rfl rfl ?_
  refine r_if_eq (f := (oI Sh)) (pc := 6) 25 d_X12_guessNow_6 (by decide) (fun c1 => ?_) (fun c1 => ?_)
  · refine r_aload_n (pc := 25) 0 d_X12_guessNow_25 rfl rfl ?_
    refine r_iload_n (pc := 26) 1 d_X12_guessNow_26 rfl rfl ?_
    refine r_iload_n (pc := 27) 2 d_X12_guessNow_27 rfl rfl ?_
    refine q_cP (f := (oI Sh)) (av := [.ref 102, .int v1, .int v2]) (st := [.int v1, .ref 204]) (z_runV ck_X12_seenFrom rfl ml_X12_382 ci_X12_seenFrom cv_X12_seenFrom (K_102 h0) (ci := 12) rfl rfl (Nat.le_of_ble_eq_true rfl) d_X12_guessNow_28) (s_X12_seenFrom hst h0 (by omega)) kp_I (fun x2 _ => ?_)
    refine r_pick [0, 1] (ls' := [(0, .ref 102), (1, .int v1)]) rfl ?_
    exact s_X12_guessNow_31 hst h0 hd v1 x2 D
  · refine r_aload_n (pc := 9) 0 d_X12_guessNow_9 rfl rfl ?_
    refine r_getR (pc := 10) g_X12_107 (K_102 h0) rfl (R_102_55 h0) d_X12_guessNow_10 ?_
    refine r_iload_n (pc := 13) 1 d_X12_guessNow_13 rfl rfl ?_
    refine r_ck (f := (oI Sh)) rfl (fun hc7 => ?_)
    refine q_iald (pc := 14) (j := v1.toNatClampNeg) (K_204 h0) hc7 rfl d_X12_guessNow_14 ?_
    refine r_aload_n (pc := 15) 0 d_X12_guessNow_15 rfl rfl ?_
    refine r_iload_n (pc := 16) 1 d_X12_guessNow_16 rfl rfl ?_
    refine r_iload_n (pc := 17) 2 d_X12_guessNow_17 rfl rfl ?_
    refine q_cP (f := (oI Sh)) (av := [.ref 102, .int v1, .int v2]) (st := [.int (gI D 204 v1.toNatClampNeg), .int v1, .ref 204]) (z_runV ck_X12_seenFrom rfl ml_X12_382 ci_X12_seenFrom cv_X12_seenFrom (K_102 h0) (ci := 12) rfl rfl (Nat.le_of_ble_eq_true rfl) d_X12_guessNow_18) (s_X12_seenFrom hst h0 (by omega)) kp_I (fun x8 _ => ?_)
    refine r_ior (pc := 21) d_X12_guessNow_21 ?_
    refine r_goto (pc := 22) 31 d_X12_guessNow_22 (by decide) ?_
    refine r_pick [0, 1] (ls' := [(0, .ref 102), (1, .int v1)]) rfl ?_
    exact s_X12_guessNow_31 hst h0 hd v1 ((gI D 204 v1.toNatClampNeg) ||| x8) D
/-! CoveredSignsModel.known -/
theorem d_X12_known_0 : decode (yB m_X12_known) 0 = .ok (.aload_n 0, 1) := by decide +kernel
theorem d_X12_known_1 : decode (yB m_X12_known) 1 = .ok (.iconst 0, 1) := by decide +kernel
theorem d_X12_known_2 : decode (yB m_X12_known) 2 = .ok (.putfield 113, 3) := by decide +kernel
theorem d_X12_known_5 : decode (yB m_X12_known) 5 = .ok (.aload_n 0, 1) := by decide +kernel
theorem d_X12_known_6 : decode (yB m_X12_known) 6 = .ok (.aload_n 0, 1) := by decide +kernel
theorem d_X12_known_7 : decode (yB m_X12_known) 7 = .ok (.iload_n 1, 1) := by decide +kernel
theorem d_X12_known_8 : decode (yB m_X12_known) 8 = .ok (.invokevirtual 385, 3) := by decide +kernel
theorem d_X12_known_11 : decode (yB m_X12_known) 11 = .ok (.ifCond .ne 7, 3) := by decide +kernel
theorem d_X12_known_14 : decode (yB m_X12_known) 14 = .ok (.iconst 1, 1) := by decide +kernel
theorem d_X12_known_15 : decode (yB m_X12_known) 15 = .ok (.goto 4, 3) := by decide +kernel
theorem d_X12_known_18 : decode (yB m_X12_known) 18 = .ok (.iconst 0, 1) := by decide +kernel
theorem d_X12_known_19 : decode (yB m_X12_known) 19 = .ok (.iconst 1, 1) := by decide +kernel
theorem d_X12_known_20 : decode (yB m_X12_known) 20 = .ok (.invokevirtual 214, 3) := by decide +kernel
theorem d_X12_known_23 : decode (yB m_X12_known) 23 = .ok (.ifCond .eq 5, 3) := by decide +kernel
theorem d_X12_known_26 : decode (yB m_X12_known) 26 = .ok (.iconst 0, 1) := by decide +kernel
theorem d_X12_known_27 : decode (yB m_X12_known) 27 = .ok (.ireturn, 1) := by decide +kernel
theorem d_X12_known_28 : decode (yB m_X12_known) 28 = .ok (.aload_n 0, 1) := by decide +kernel
theorem d_X12_known_29 : decode (yB m_X12_known) 29 = .ok (.invokevirtual 395, 3) := by decide +kernel
theorem d_X12_known_32 : decode (yB m_X12_known) 32 = .ok (.iconst 0, 1) := by decide +kernel
theorem d_X12_known_33 : decode (yB m_X12_known) 33 = .ok (.istore_n 3, 1) := by decide +kernel
theorem d_X12_known_34 : decode (yB m_X12_known) 34 = .ok (.iload_n 3, 1) := by decide +kernel
theorem d_X12_known_35 : decode (yB m_X12_known) 35 = .ok (.bipush 100, 2) := by decide +kernel
theorem d_X12_known_37 : decode (yB m_X12_known) 37 = .ok (.if_icmp .ge 31, 3) := by decide +kernel
theorem d_X12_known_40 : decode (yB m_X12_known) 40 = .ok (.aload_n 0, 1) := by decide +kernel
theorem d_X12_known_41 : decode (yB m_X12_known) 41 = .ok (.iload_n 1, 1) := by decide +kernel
theorem d_X12_known_42 : decode (yB m_X12_known) 42 = .ok (.iload_n 3, 1) := by decide +kernel
theorem d_X12_known_43 : decode (yB m_X12_known) 43 = .ok (.iload_n 2, 1) := by decide +kernel
theorem d_X12_known_44 : decode (yB m_X12_known) 44 = .ok (.invokevirtual 398, 3) := by decide +kernel
theorem d_X12_known_47 : decode (yB m_X12_known) 47 = .ok (.iconst 1, 1) := by decide +kernel
theorem d_X12_known_48 : decode (yB m_X12_known) 48 = .ok (.aload_n 0, 1) := by decide +kernel
theorem d_X12_known_49 : decode (yB m_X12_known) 49 = .ok (.getfield 67, 3) := by decide +kernel
theorem d_X12_known_52 : decode (yB m_X12_known) 52 = .ok (.iload_n 1, 1) := by decide +kernel
theorem d_X12_known_53 : decode (yB m_X12_known) 53 = .ok (.aaload, 1) := by decide +kernel
theorem d_X12_known_54 : decode (yB m_X12_known) 54 = .ok (.iconst 0, 1) := by decide +kernel
theorem d_X12_known_55 : decode (yB m_X12_known) 55 = .ok (.iaload, 1) := by decide +kernel
theorem d_X12_known_56 : decode (yB m_X12_known) 56 = .ok (.ishl, 1) := by decide +kernel
theorem d_X12_known_57 : decode (yB m_X12_known) 57 = .ok (.if_icmp .ne 5, 3) := by decide +kernel
theorem d_X12_known_60 : decode (yB m_X12_known) 60 = .ok (.iload_n 3, 1) := by decide +kernel
theorem d_X12_known_61 : decode (yB m_X12_known) 61 = .ok (.ireturn, 1) := by decide +kernel
theorem d_X12_known_62 : decode (yB m_X12_known) 62 = .ok (.iinc 3 1, 3) := by decide +kernel
theorem d_X12_known_65 : decode (yB m_X12_known) 65 = .ok (.goto (-31), 3) := by decide +kernel
theorem d_X12_known_68 : decode (yB m_X12_known) 68 = .ok (.iconst (-1), 1) := by decide +kernel
theorem d_X12_known_69 : decode (yB m_X12_known) 69 = .ok (.ireturn, 1) := by decide +kernel
def fn_X12_known_34 (v1 : Int32) (v2 : Int32) : Nat → Int32 → zD → Option (Int32 × zD)
  | 0, _, _ => none
  | n + 1, v3, D => (if (100 : Int32) ≤ v3 then ((some ((-1 : Int32), D))) else ((fn_X12_guessNow v1 v3 v2 D).bind fun q8 => zck v1 8 <| (if q8.1 = ((1 : Int32) <<< ((gI q8.2 (170 + v1.toNatClampNeg) 0) &&& 31)) then ((some (v3, q8.2))) else (((fn_X12_known_34 v1 v2 n) (v3 + (1 : Int32)) q8.2)))))
def fn_X12_known_19 (v1 : Int32) (v2 : Int32) (w1 : Int32) (D : zD) : Option (Int32 × zD) := (fn_X12_bad w1 (1 : Int32) D).bind fun q4 => (if q4.1 = 0 then ((fn_X12_layNone q4.2).bind fun D6 => (fn_X12_known_34 v1 v2 zFU (0 : Int32) D6)) else ((some ((0 : Int32), q4.2))))
def fn_X12_known (v1 : Int32) (v2 : Int32) (D : zD) : Option (Int32 × zD) := zlet (sI D 102 0 (0 : Int32)) fun D1 => (fn_X12_isStanding v1 D1).bind fun x2 => (if x2 = 0 then ((fn_X12_known_19 v1 v2 (1 : Int32) D1)) else ((fn_X12_known_19 v1 v2 (0 : Int32) D1)))
theorem s_X12_known_34 {X : zX} {Sh : zSh} {d : Nat} (hst : (zl X).stackTraces = false) (h0 : zSh0 Sh) (hd : 4 ≤ d) {v1 : Int32} {v2 : Int32} : ∀ (n : Nat) (v3 : Int32) (D : zD) , Rn X m_X12_known (d + 1) 34 [(0, .ref 102), (1, .int v1), (2, .int v2), (3, .int v3)] [] (Sh, D) ((oI Sh) (fn_X12_known_34 v1 v2 n v3 D)) := by
  intro n
  induction n with
  | zero => intro v3 D; exact Rn_none rfl
  | succ n hk34 =>
    intro v3 D
    rw [fn_X12_known_34]
    refine r_iload_n (pc := 34) 3 d_X12_known_34 rfl rfl ?_
    refine r_bipush (pc := 35) (100 : Int32) d_X12_known_35 rfl ?_
    refine r_icmp_ge (f := (oI Sh)) (pc := 37) 68 d_X12_known_37 (by decide) (fun c7 => ?_) (fun c7 => ?_)
    · refine r_iconst (pc := 68) (-1 : Int32) d_X12_known_68 rfl ?_
      exact r_iret (pc := 69) rfl d_X12_known_69
    · refine r_aload_n (pc := 40) 0 d_X12_known_40 rfl rfl ?_
      refine r_iload_n (pc := 41) 1 d_X12_known_41 rfl rfl ?_
      refine r_iload_n (pc := 42) 3 d_X12_known_42 rfl rfl ?_
      refine r_iload_n (pc := 43) 2 d_X12_known_43 rfl rfl ?_
      refine q_cI (f := (oI Sh)) (av := [.ref 102, .int v1, .int v3, .int v2]) (st := []) (z_runV ck_X12_guessNow rfl ml_X12_398 ci_X12_guessNow cv_X12_guessNow (K_102 h0) (ci := 12) rfl rfl (Nat.le_of_ble_eq_true rfl) d_X12_known_44) (s_X12_guessNow hst h0 (by omega)) kp_I (fun q8 _ => ?_)
      refine r_iconst (pc := 47) (1 : Int32) d_X12_known_47 rfl ?_
      refine r_aload_n (pc := 48) 0 d_X12_known_48 rfl rfl ?_
      refine r_getR (pc := 49) g_X12_67 (K_102 h0) rfl (R_102_40 h0) d_X12_known_49 ?_
      refine r_iload_n (pc := 52) 1 d_X12_known_52 rfl rfl ?_
      refine r_ck (f := (oI Sh)) rfl (fun hc9 => ?_)
      refine q_aald (pc := 53) (j := v1.toNatClampNeg) (K_169 h0) (Or.inl ⟨rfl, rfl⟩) hc9 rfl (RW_169 h0 _ (z_lt hc9)) d_X12_known_53 ?_
      refine r_iconst (pc := 54) (0 : Int32) d_X12_known_54 rfl ?_
      refine q_iald (pc := 55) (j := 0) (RK_169 h0 _ (z_lt hc9)) (by unfold vp_in; decide) rfl d_X12_known_55 ?_
      refine r_ishl (pc := 56) d_X12_known_56 ?_
      refine r_icmp_ne (f := (oI Sh)) (pc := 57) 62 d_X12_known_57 (by decide) (fun c10 => ?_) (fun c10 => ?_)
      · refine r_iinc (pc := 62) ((v3 + (1 : Int32))) 3 (ls' := [(3, .int (v3 + (1 : Int32))), (0, .ref 102), (1, .int v1), (2, .int v2)]) d_X12_known_62 rfl rfl (Nat.le_of_ble_eq_true rfl) rfl ?_
        refine r_goto (pc := 65) 34 d_X12_known_65 (by decide) ?_
        refine r_pick [1, 2, 3, 0] (ls' := [(0, .ref 102), (1, .int v1), (2, .int v2), (3, .int (v3 + (1 : Int32)))]) rfl ?_
        exact hk34 (v3 + (1 : Int32)) q8.2 
      · refine r_iload_n (pc := 60) 3 d_X12_known_60 rfl rfl ?_
        exact r_iret (pc := 61) rfl d_X12_known_61
theorem s_X12_known_19 {X : zX} {Sh : zSh} {d : Nat} (hst : (zl X).stackTraces = false) (h0 : zSh0 Sh) (hd : 4 ≤ d) {v1 : Int32} {v2 : Int32} (w1 : Int32) (D : zD)  : Rn X m_X12_known (d + 1) 19 [(0, .ref 102), (1, .int v1), (2, .int v2)] [.int w1, .ref 102] (Sh, D) ((oI Sh) (fn_X12_known_19 v1 v2 w1 D)) := by
  rw [fn_X12_known_19]
  refine r_iconst (pc := 19) (1 : Int32) d_X12_known_19 rfl ?_
  refine q_cI (f := (oI Sh)) (av := [.ref 102, .int w1, .int (1 : Int32)]) (st := []) (z_runV ck_X12_bad rfl ml_X12_214 ci_X12_bad cv_X12_bad (K_102 h0) (ci := 12) rfl rfl (Nat.le_of_ble_eq_true rfl) d_X12_known_20) (s_X12_bad hst h0 (by omega)) kp_I (fun q4 _ => ?_)
  refine r_if_eq (f := (oI Sh)) (pc := 23) 28 d_X12_known_23 (by decide) (fun c5 => ?_) (fun c5 => ?_)
  · refine r_aload_n (pc := 28) 0 d_X12_known_28 rfl rfl ?_
    refine q_cV (f := (oI Sh)) (av := [.ref 102]) (st := []) (z_runV ck_X12_layNone rfl ml_X12_395 ci_X12_layNone cv_X12_layNone (K_102 h0) (ci := 12) rfl rfl (Nat.le_of_ble_eq_true rfl) d_X12_known_29) (s_X12_layNone hst h0 (by omega)) kp_I (fun D6 _ => ?_)
    refine r_iconst (pc := 32) (0 : Int32) d_X12_known_32 rfl ?_
    refine r_istore_n (pc := 33) (ls' := [(3, .int (0 : Int32)), (0, .ref 102), (1, .int v1), (2, .int v2)]) d_X12_known_33 rfl (Nat.le_of_ble_eq_true rfl) rfl ?_
    refine r_pick [1, 2, 3, 0] (ls' := [(0, .ref 102), (1, .int v1), (2, .int v2), (3, .int (0 : Int32))]) rfl ?_
    exact s_X12_known_34 hst h0 hd zFU  (0 : Int32) D6
  · refine r_iconst (pc := 26) (0 : Int32) d_X12_known_26 rfl ?_
    exact r_iret (pc := 27) rfl d_X12_known_27
theorem s_X12_known {X : zX} {Sh : zSh} {d : Nat} (hst : (zl X).stackTraces = false) (h0 : zSh0 Sh) (hd : 5 ≤ d) {v1 : Int32} {v2 : Int32} {D : zD} : Sd X m_X12_known d [.ref 102, .int v1, .int v2] (Sh, D) ((oI Sh) (fn_X12_known v1 v2 D)) := by
  obtain ⟨d, rfl⟩ : ∃ e, d = e + 1 := ⟨d - 1, by omega⟩
  replace hd : 4 ≤ d := by omega
  refine z_body ck_X12_known rfl (Nat.le_of_ble_eq_true rfl) rfl hst ?_
  rw [fn_X12_known]
  show Rn X m_X12_known (d + 1) 0 [(0, .ref 102), (1, .int v1), (2, .int v2)] [] (Sh, D) _
  refine r_aload_n (pc := 0) 0 d_X12_known_0 rfl rfl ?_
  refine r_iconst (pc := 1) (0 : Int32) d_X12_known_1 rfl ?_
  refine r_putI (pc := 2) p_X12_113 (K_102 h0) rfl (Or.inl rfl) d_X12_known_2 ?_
  refine r_letD (f := (oI Sh)) (fun D1 => ?_)
  refine r_aload_n (pc := 5) 0 d_X12_known_5 rfl rfl ?_
  refine r_aload_n (pc := 6) 0 d_X12_known_6 rfl rfl ?_
  refine r_iload_n (pc := 7) 1 d_X12_known_7 rfl rfl ?_
  refine q_cP (f := (oI Sh)) (av := [.ref 102, .int v1]) (st := [.ref 102]) (z_runV ck_X12_isStanding rfl ml_X12_385 ci_X12_isStanding cv_X12_isStanding (K_102 h0) (ci := 12) rfl rfl (Nat.le_of_ble_eq_true rfl) d_X12_known_8) (s_X12_isStanding hst h0 (by omega)) kp_I (fun x2 _ => ?_)
  refine r_if_ne (f := (oI Sh)) (pc := 11) 18 d_X12_known_11 (by decide) (fun c3 => ?_) (fun c3 => ?_)
  · refine r_iconst (pc := 18) (0 : Int32) d_X12_known_18 rfl ?_
    refine r_pick [0, 1, 2] (ls' := [(0, .ref 102), (1, .int v1), (2, .int v2)]) rfl ?_
    exact s_X12_known_19 hst h0 hd (0 : Int32) D1
  · refine r_iconst (pc := 14) (1 : Int32) d_X12_known_14 rfl ?_
    refine r_goto (pc := 15) 19 d_X12_known_15 (by decide) ?_
    refine r_pick [0, 1, 2] (ls' := [(0, .ref 102), (1, .int v1), (2, .int v2)]) rfl ?_
    exact s_X12_known_19 hst h0 hd (1 : Int32) D1
/-! CoveredSignsModel.all -/
theorem d_X12_all_0 : decode (yB m_X12_all) 0 = .ok (.aload_n 0, 1) := by decide +kernel
theorem d_X12_all_1 : decode (yB m_X12_all) 1 = .ok (.iconst 0, 1) := by decide +kernel
theorem d_X12_all_2 : decode (yB m_X12_all) 2 = .ok (.putfield 113, 3) := by decide +kernel
theorem d_X12_all_5 : decode (yB m_X12_all) 5 = .ok (.aload_n 0, 1) := by decide +kernel
theorem d_X12_all_6 : decode (yB m_X12_all) 6 = .ok (.invokevirtual 395, 3) := by decide +kernel
theorem d_X12_all_9 : decode (yB m_X12_all) 9 = .ok (.iconst 0, 1) := by decide +kernel
theorem d_X12_all_10 : decode (yB m_X12_all) 10 = .ok (.istore_n 2, 1) := by decide +kernel
theorem d_X12_all_11 : decode (yB m_X12_all) 11 = .ok (.iload_n 2, 1) := by decide +kernel
theorem d_X12_all_12 : decode (yB m_X12_all) 12 = .ok (.bipush 100, 2) := by decide +kernel
theorem d_X12_all_14 : decode (yB m_X12_all) 14 = .ok (.if_icmp .ge 67, 3) := by decide +kernel
theorem d_X12_all_17 : decode (yB m_X12_all) 17 = .ok (.iconst 1, 1) := by decide +kernel
theorem d_X12_all_18 : decode (yB m_X12_all) 18 = .ok (.istore_n 3, 1) := by decide +kernel
theorem d_X12_all_19 : decode (yB m_X12_all) 19 = .ok (.iconst 0, 1) := by decide +kernel
theorem d_X12_all_20 : decode (yB m_X12_all) 20 = .ok (.istore 4, 2) := by decide +kernel
theorem d_X12_all_22 : decode (yB m_X12_all) 22 = .ok (.iload 4, 2) := by decide +kernel
theorem d_X12_all_24 : decode (yB m_X12_all) 24 = .ok (.aload_n 0, 1) := by decide +kernel
theorem d_X12_all_25 : decode (yB m_X12_all) 25 = .ok (.getfield 236, 3) := by decide +kernel
theorem d_X12_all_28 : decode (yB m_X12_all) 28 = .ok (.if_icmp .ge 41, 3) := by decide +kernel
theorem d_X12_all_31 : decode (yB m_X12_all) 31 = .ok (.aload_n 0, 1) := by decide +kernel
theorem d_X12_all_32 : decode (yB m_X12_all) 32 = .ok (.iload 4, 2) := by decide +kernel
theorem d_X12_all_34 : decode (yB m_X12_all) 34 = .ok (.iload_n 2, 1) := by decide +kernel
theorem d_X12_all_35 : decode (yB m_X12_all) 35 = .ok (.iload_n 1, 1) := by decide +kernel
theorem d_X12_all_36 : decode (yB m_X12_all) 36 = .ok (.invokevirtual 398, 3) := by decide +kernel
theorem d_X12_all_39 : decode (yB m_X12_all) 39 = .ok (.iconst 1, 1) := by decide +kernel
theorem d_X12_all_40 : decode (yB m_X12_all) 40 = .ok (.aload_n 0, 1) := by decide +kernel
theorem d_X12_all_41 : decode (yB m_X12_all) 41 = .ok (.getfield 67, 3) := by decide +kernel
theorem d_X12_all_44 : decode (yB m_X12_all) 44 = .ok (.iload 4, 2) := by decide +kernel
theorem d_X12_all_46 : decode (yB m_X12_all) 46 = .ok (.aaload, 1) := by decide +kernel
theorem d_X12_all_47 : decode (yB m_X12_all) 47 = .ok (.iconst 0, 1) := by decide +kernel
theorem d_X12_all_48 : decode (yB m_X12_all) 48 = .ok (.iaload, 1) := by decide +kernel
theorem d_X12_all_49 : decode (yB m_X12_all) 49 = .ok (.ishl, 1) := by decide +kernel
theorem d_X12_all_50 : decode (yB m_X12_all) 50 = .ok (.if_icmp .ne 11, 3) := by decide +kernel
theorem d_X12_all_53 : decode (yB m_X12_all) 53 = .ok (.iload_n 3, 1) := by decide +kernel
theorem d_X12_all_54 : decode (yB m_X12_all) 54 = .ok (.ifCond .eq 7, 3) := by decide +kernel
theorem d_X12_all_57 : decode (yB m_X12_all) 57 = .ok (.iconst 1, 1) := by decide +kernel
theorem d_X12_all_58 : decode (yB m_X12_all) 58 = .ok (.goto 4, 3) := by decide +kernel
theorem d_X12_all_61 : decode (yB m_X12_all) 61 = .ok (.iconst 0, 1) := by decide +kernel
theorem d_X12_all_62 : decode (yB m_X12_all) 62 = .ok (.istore_n 3, 1) := by decide +kernel
theorem d_X12_all_63 : decode (yB m_X12_all) 63 = .ok (.iinc 4 1, 3) := by decide +kernel
theorem d_X12_all_66 : decode (yB m_X12_all) 66 = .ok (.goto (-44), 3) := by decide +kernel
theorem d_X12_all_69 : decode (yB m_X12_all) 69 = .ok (.iload_n 3, 1) := by decide +kernel
theorem d_X12_all_70 : decode (yB m_X12_all) 70 = .ok (.ifCond .eq 5, 3) := by decide +kernel
theorem d_X12_all_73 : decode (yB m_X12_all) 73 = .ok (.iload_n 2, 1) := by decide +kernel
theorem d_X12_all_74 : decode (yB m_X12_all) 74 = .ok (.ireturn, 1) := by decide +kernel
theorem d_X12_all_75 : decode (yB m_X12_all) 75 = .ok (.iinc 2 1, 3) := by decide +kernel
theorem d_X12_all_78 : decode (yB m_X12_all) 78 = .ok (.goto (-67), 3) := by decide +kernel
theorem d_X12_all_81 : decode (yB m_X12_all) 81 = .ok (.iconst (-1), 1) := by decide +kernel
theorem d_X12_all_82 : decode (yB m_X12_all) 82 = .ok (.ireturn, 1) := by decide +kernel
def fn_X12_all_69 (v1 : Int32) (k11 : Int32 → zD → Option (Int32 × zD)) (v2 : Int32) (v3 : Int32) (D : zD) : Option (Int32 × zD) := (if v3 = 0 then ((k11 (v2 + (1 : Int32)) D)) else ((some (v2, D))))
def fn_X12_all_22 (v1 : Int32) (k11 : Int32 → zD → Option (Int32 × zD)) : Nat → Int32 → Int32 → Int32 → zD → Option (Int32 × zD)
  | 0, _, _, _, _ => none
  | n + 1, v2, v3, v4, D => (if (gI D 102 36) ≤ v4 then ((fn_X12_all_69 v1 k11 v2 v3 D)) else ((fn_X12_guessNow v4 v2 v1 D).bind fun q6 => zck v4 8 <| (if q6.1 = ((1 : Int32) <<< ((gI q6.2 (170 + v4.toNatClampNeg) 0) &&& 31)) then ((if v3 = 0 then (((fn_X12_all_22 v1 k11 n) v2 (0 : Int32) (v4 + (1 : Int32)) q6.2)) else (((fn_X12_all_22 v1 k11 n) v2 (1 : Int32) (v4 + (1 : Int32)) q6.2)))) else (((fn_X12_all_22 v1 k11 n) v2 (0 : Int32) (v4 + (1 : Int32)) q6.2)))))
def fn_X12_all_11 (v1 : Int32) : Nat → Int32 → zD → Option (Int32 × zD)
  | 0, _, _ => none
  | n + 1, v2, D => (if (100 : Int32) ≤ v2 then ((some ((-1 : Int32), D))) else ((fn_X12_all_22 v1 (fn_X12_all_11 v1 n) zFU v2 (1 : Int32) (0 : Int32) D)))
def fn_X12_all (v1 : Int32) (D : zD) : Option (Int32 × zD) := zlet (sI D 102 0 (0 : Int32)) fun D1 => (fn_X12_layNone D1).bind fun D2 => (fn_X12_all_11 v1 zFU (0 : Int32) D2)
theorem s_X12_all_69 {X : zX} {Sh : zSh} {d : Nat} (hst : (zl X).stackTraces = false) (h0 : zSh0 Sh) (hd : 4 ≤ d) {v1 : Int32} (k11 : Int32 → zD → Option (Int32 × zD)) (hk11 : ∀ (v2 : Int32) (D : zD) , Rn X m_X12_all (d + 1) 11 [(0, .ref 102), (1, .int v1), (2, .int v2)] [] (Sh, D) ((oI Sh) (k11 v2 D))) (v2 : Int32) (v3 : Int32) (D : zD)  : Rn X m_X12_all (d + 1) 69 [(0, .ref 102), (1, .int v1), (2, .int v2), (3, .int v3)] [] (Sh, D) ((oI Sh) (fn_X12_all_69 v1 k11 v2 v3 D)) := by
  rw [fn_X12_all_69]
  refine r_iload_n (pc := 69) 3 d_X12_all_69 rfl rfl ?_
  refine r_if_eq (f := (oI Sh)) (pc := 70) 75 d_X12_all_70 (by decide) (fun c5 => ?_) (fun c5 => ?_)
  · refine r_iinc (pc := 75) ((v2 + (1 : Int32))) 2 (ls' := [(2, .int (v2 + (1 : Int32))), (0, .ref 102), (1, .int v1), (3, .int v3)]) d_X12_all_75 rfl rfl (Nat.le_of_ble_eq_true rfl) rfl ?_
    refine r_goto (pc := 78) 11 d_X12_all_78 (by decide) ?_
    refine r_pick [1, 2, 0] (ls' := [(0, .ref 102), (1, .int v1), (2, .int (v2 + (1 : Int32)))]) rfl ?_
    exact hk11 (v2 + (1 : Int32)) D 
  · refine r_iload_n (pc := 73) 2 d_X12_all_73 rfl rfl ?_
    exact r_iret (pc := 74) rfl d_X12_all_74
theorem s_X12_all_22 {X : zX} {Sh : zSh} {d : Nat} (hst : (zl X).stackTraces = false) (h0 : zSh0 Sh) (hd : 4 ≤ d) {v1 : Int32} (k11 : Int32 → zD → Option (Int32 × zD)) (hk11 : ∀ (v2 : Int32) (D : zD) , Rn X m_X12_all (d + 1) 11 [(0, .ref 102), (1, .int v1), (2, .int v2)] [] (Sh, D) ((oI Sh) (k11 v2 D))) : ∀ (n : Nat) (v2 : Int32) (v3 : Int32) (v4 : Int32) (D : zD) , Rn X m_X12_all (d + 1) 22 [(0, .ref 102), (1, .int v1), (2, .int v2), (3, .int v3), (4, .int v4)] [] (Sh, D) ((oI Sh) (fn_X12_all_22 v1 k11 n v2 v3 v4 D)) := by
  intro n
  induction n with
  | zero => intro v2 v3 v4 D; exact Rn_none rfl
  | succ n hk22 =>
    intro v2 v3 v4 D
    rw [fn_X12_all_22]
    refine r_iload (pc := 22) 4 d_X12_all_22 rfl ?_
    refine r_aload_n (pc := 24) 0 d_X12_all_24 rfl rfl ?_
    refine q_gI (pc := 25) g_X12_236 (K_102 h0) rfl d_X12_all_25 ?_
    refine r_icmp_ge (f := (oI Sh)) (pc := 28) 69 d_X12_all_28 (by decide) (fun c4 => ?_) (fun c4 => ?_)
    · refine r_pick [0, 1, 2, 3] (ls' := [(0, .ref 102), (1, .int v1), (2, .int v2), (3, .int v3)]) rfl ?_
      exact s_X12_all_69 hst h0 hd k11 hk11 v2 v3 D
    · refine r_aload_n (pc := 31) 0 d_X12_all_31 rfl rfl ?_
      refine r_iload (pc := 32) 4 d_X12_all_32 rfl ?_
      refine r_iload_n (pc := 34) 2 d_X12_all_34 rfl rfl ?_
      refine r_iload_n (pc := 35) 1 d_X12_all_35 rfl rfl ?_
      refine q_cI (f := (oI Sh)) (av := [.ref 102, .int v4, .int v2, .int v1]) (st := []) (z_runV ck_X12_guessNow rfl ml_X12_398 ci_X12_guessNow cv_X12_guessNow (K_102 h0) (ci := 12) rfl rfl (Nat.le_of_ble_eq_true rfl) d_X12_all_36) (s_X12_guessNow hst h0 (by omega)) kp_I (fun q6 _ => ?_)
      refine r_iconst (pc := 39) (1 : Int32) d_X12_all_39 rfl ?_
      refine r_aload_n (pc := 40) 0 d_X12_all_40 rfl rfl ?_
      refine r_getR (pc := 41) g_X12_67 (K_102 h0) rfl (R_102_40 h0) d_X12_all_41 ?_
      refine r_iload (pc := 44) 4 d_X12_all_44 rfl ?_
      refine r_ck (f := (oI Sh)) rfl (fun hc7 => ?_)
      refine q_aald (pc := 46) (j := v4.toNatClampNeg) (K_169 h0) (Or.inl ⟨rfl, rfl⟩) hc7 rfl (RW_169 h0 _ (z_lt hc7)) d_X12_all_46 ?_
      refine r_iconst (pc := 47) (0 : Int32) d_X12_all_47 rfl ?_
      refine q_iald (pc := 48) (j := 0) (RK_169 h0 _ (z_lt hc7)) (by unfold vp_in; decide) rfl d_X12_all_48 ?_
      refine r_ishl (pc := 49) d_X12_all_49 ?_
      refine r_icmp_ne (f := (oI Sh)) (pc := 50) 61 d_X12_all_50 (by decide) (fun c8 => ?_) (fun c8 => ?_)
      · refine r_iconst (pc := 61) (0 : Int32) d_X12_all_61 rfl ?_
        refine r_istore_n (pc := 62) (ls' := [(3, .int (0 : Int32)), (0, .ref 102), (1, .int v1), (2, .int v2), (4, .int v4)]) d_X12_all_62 rfl (Nat.le_of_ble_eq_true rfl) rfl ?_
        refine r_iinc (pc := 63) ((v4 + (1 : Int32))) 4 (ls' := [(4, .int (v4 + (1 : Int32))), (3, .int (0 : Int32)), (0, .ref 102), (1, .int v1), (2, .int v2)]) d_X12_all_63 rfl rfl (Nat.le_of_ble_eq_true rfl) rfl ?_
        refine r_goto (pc := 66) 22 d_X12_all_66 (by decide) ?_
        refine r_pick [2, 3, 4, 1, 0] (ls' := [(0, .ref 102), (1, .int v1), (2, .int v2), (3, .int (0 : Int32)), (4, .int (v4 + (1 : Int32)))]) rfl ?_
        exact hk22 v2 (0 : Int32) (v4 + (1 : Int32)) q6.2 
      · refine r_iload_n (pc := 53) 3 d_X12_all_53 rfl rfl ?_
        refine r_if_eq (f := (oI Sh)) (pc := 54) 61 d_X12_all_54 (by decide) (fun c9 => ?_) (fun c9 => ?_)
        · refine r_iconst (pc := 61) (0 : Int32) d_X12_all_61 rfl ?_
          refine r_istore_n (pc := 62) (ls' := [(3, .int (0 : Int32)), (0, .ref 102), (1, .int v1), (2, .int v2), (4, .int v4)]) d_X12_all_62 rfl (Nat.le_of_ble_eq_true rfl) rfl ?_
          refine r_iinc (pc := 63) ((v4 + (1 : Int32))) 4 (ls' := [(4, .int (v4 + (1 : Int32))), (3, .int (0 : Int32)), (0, .ref 102), (1, .int v1), (2, .int v2)]) d_X12_all_63 rfl rfl (Nat.le_of_ble_eq_true rfl) rfl ?_
          refine r_goto (pc := 66) 22 d_X12_all_66 (by decide) ?_
          refine r_pick [2, 3, 4, 1, 0] (ls' := [(0, .ref 102), (1, .int v1), (2, .int v2), (3, .int (0 : Int32)), (4, .int (v4 + (1 : Int32)))]) rfl ?_
          exact hk22 v2 (0 : Int32) (v4 + (1 : Int32)) q6.2 
        · refine r_iconst (pc := 57) (1 : Int32) d_X12_all_57 rfl ?_
          refine r_goto (pc := 58) 62 d_X12_all_58 (by decide) ?_
          refine r_istore_n (pc := 62) (ls' := [(3, .int (1 : Int32)), (0, .ref 102), (1, .int v1), (2, .int v2), (4, .int v4)]) d_X12_all_62 rfl (Nat.le_of_ble_eq_true rfl) rfl ?_
          refine r_iinc (pc := 63) ((v4 + (1 : Int32))) 4 (ls' := [(4, .int (v4 + (1 : Int32))), (3, .int (1 : Int32)), (0, .ref 102), (1, .int v1), (2, .int v2)]) d_X12_all_63 rfl rfl (Nat.le_of_ble_eq_true rfl) rfl ?_
          refine r_goto (pc := 66) 22 d_X12_all_66 (by decide) ?_
          refine r_pick [2, 3, 4, 1, 0] (ls' := [(0, .ref 102), (1, .int v1), (2, .int v2), (3, .int (1 : Int32)), (4, .int (v4 + (1 : Int32)))]) rfl ?_
          exact hk22 v2 (1 : Int32) (v4 + (1 : Int32)) q6.2 
theorem s_X12_all_11 {X : zX} {Sh : zSh} {d : Nat} (hst : (zl X).stackTraces = false) (h0 : zSh0 Sh) (hd : 4 ≤ d) {v1 : Int32} : ∀ (n : Nat) (v2 : Int32) (D : zD) , Rn X m_X12_all (d + 1) 11 [(0, .ref 102), (1, .int v1), (2, .int v2)] [] (Sh, D) ((oI Sh) (fn_X12_all_11 v1 n v2 D)) := by
  intro n
  induction n with
  | zero => intro v2 D; exact Rn_none rfl
  | succ n hk11 =>
    intro v2 D
    rw [fn_X12_all_11]
    refine r_iload_n (pc := 11) 2 d_X12_all_11 rfl rfl ?_
    refine r_bipush (pc := 12) (100 : Int32) d_X12_all_12 rfl ?_
    refine r_icmp_ge (f := (oI Sh)) (pc := 14) 81 d_X12_all_14 (by decide) (fun c3 => ?_) (fun c3 => ?_)
    · refine r_iconst (pc := 81) (-1 : Int32) d_X12_all_81 rfl ?_
      exact r_iret (pc := 82) rfl d_X12_all_82
    · refine r_iconst (pc := 17) (1 : Int32) d_X12_all_17 rfl ?_
      refine r_istore_n (pc := 18) (ls' := [(3, .int (1 : Int32)), (0, .ref 102), (1, .int v1), (2, .int v2)]) d_X12_all_18 rfl (Nat.le_of_ble_eq_true rfl) rfl ?_
      refine r_iconst (pc := 19) (0 : Int32) d_X12_all_19 rfl ?_
      refine r_istore (pc := 20) (ls' := [(4, .int (0 : Int32)), (3, .int (1 : Int32)), (0, .ref 102), (1, .int v1), (2, .int v2)]) d_X12_all_20 (Nat.le_of_ble_eq_true rfl) rfl ?_
      refine r_pick [2, 3, 4, 1, 0] (ls' := [(0, .ref 102), (1, .int v1), (2, .int v2), (3, .int (1 : Int32)), (4, .int (0 : Int32))]) rfl ?_
      exact s_X12_all_22 hst h0 hd (fn_X12_all_11 v1 n) hk11 zFU  v2 (1 : Int32) (0 : Int32) D
theorem s_X12_all {X : zX} {Sh : zSh} {d : Nat} (hst : (zl X).stackTraces = false) (h0 : zSh0 Sh) (hd : 5 ≤ d) {v1 : Int32} {D : zD} : Sd X m_X12_all d [.ref 102, .int v1] (Sh, D) ((oI Sh) (fn_X12_all v1 D)) := by
  obtain ⟨d, rfl⟩ : ∃ e, d = e + 1 := ⟨d - 1, by omega⟩
  replace hd : 4 ≤ d := by omega
  refine z_body ck_X12_all rfl (Nat.le_of_ble_eq_true rfl) rfl hst ?_
  rw [fn_X12_all]
  show Rn X m_X12_all (d + 1) 0 [(0, .ref 102), (1, .int v1)] [] (Sh, D) _
  refine r_aload_n (pc := 0) 0 d_X12_all_0 rfl rfl ?_
  refine r_iconst (pc := 1) (0 : Int32) d_X12_all_1 rfl ?_
  refine r_putI (pc := 2) p_X12_113 (K_102 h0) rfl (Or.inl rfl) d_X12_all_2 ?_
  refine r_letD (f := (oI Sh)) (fun D1 => ?_)
  refine r_aload_n (pc := 5) 0 d_X12_all_5 rfl rfl ?_
  refine q_cV (f := (oI Sh)) (av := [.ref 102]) (st := []) (z_runV ck_X12_layNone rfl ml_X12_395 ci_X12_layNone cv_X12_layNone (K_102 h0) (ci := 12) rfl rfl (Nat.le_of_ble_eq_true rfl) d_X12_all_6) (s_X12_layNone hst h0 (by omega)) kp_I (fun D2 _ => ?_)
  refine r_iconst (pc := 9) (0 : Int32) d_X12_all_9 rfl ?_
  refine r_istore_n (pc := 10) (ls' := [(2, .int (0 : Int32)), (0, .ref 102), (1, .int v1)]) d_X12_all_10 rfl (Nat.le_of_ble_eq_true rfl) rfl ?_
  refine r_pick [1, 2, 0] (ls' := [(0, .ref 102), (1, .int v1), (2, .int (0 : Int32))]) rfl ?_
  exact s_X12_all_11 hst h0 hd zFU  (0 : Int32) D2
/-! CoveredSignsModel.isTold -/
theorem d_X12_isTold_0 : decode (yB m_X12_isTold) 0 = .ok (.aload_n 0, 1) := by decide +kernel
theorem d_X12_isTold_1 : decode (yB m_X12_isTold) 1 = .ok (.getfield 38, 3) := by decide +kernel
theorem d_X12_isTold_4 : decode (yB m_X12_isTold) 4 = .ok (.iload_n 1, 1) := by decide +kernel
theorem d_X12_isTold_5 : decode (yB m_X12_isTold) 5 = .ok (.iaload, 1) := by decide +kernel
theorem d_X12_isTold_6 : decode (yB m_X12_isTold) 6 = .ok (.aload_n 0, 1) := by decide +kernel
theorem d_X12_isTold_7 : decode (yB m_X12_isTold) 7 = .ok (.getfield 236, 3) := by decide +kernel
theorem d_X12_isTold_10 : decode (yB m_X12_isTold) 10 = .ok (.if_icmp .ne 7, 3) := by decide +kernel
theorem d_X12_isTold_13 : decode (yB m_X12_isTold) 13 = .ok (.iconst 1, 1) := by decide +kernel
theorem d_X12_isTold_14 : decode (yB m_X12_isTold) 14 = .ok (.goto 4, 3) := by decide +kernel
theorem d_X12_isTold_17 : decode (yB m_X12_isTold) 17 = .ok (.iconst 0, 1) := by decide +kernel
theorem d_X12_isTold_18 : decode (yB m_X12_isTold) 18 = .ok (.istore_n 2, 1) := by decide +kernel
theorem d_X12_isTold_19 : decode (yB m_X12_isTold) 19 = .ok (.iconst 0, 1) := by decide +kernel
theorem d_X12_isTold_20 : decode (yB m_X12_isTold) 20 = .ok (.istore_n 3, 1) := by decide +kernel
theorem d_X12_isTold_21 : decode (yB m_X12_isTold) 21 = .ok (.iload_n 3, 1) := by decide +kernel
theorem d_X12_isTold_22 : decode (yB m_X12_isTold) 22 = .ok (.aload_n 0, 1) := by decide +kernel
theorem d_X12_isTold_23 : decode (yB m_X12_isTold) 23 = .ok (.getfield 236, 3) := by decide +kernel
theorem d_X12_isTold_26 : decode (yB m_X12_isTold) 26 = .ok (.if_icmp .ge 38, 3) := by decide +kernel
theorem d_X12_isTold_29 : decode (yB m_X12_isTold) 29 = .ok (.iload_n 2, 1) := by decide +kernel
theorem d_X12_isTold_30 : decode (yB m_X12_isTold) 30 = .ok (.ifCond .eq 34, 3) := by decide +kernel
theorem d_X12_isTold_33 : decode (yB m_X12_isTold) 33 = .ok (.aload_n 0, 1) := by decide +kernel
theorem d_X12_isTold_34 : decode (yB m_X12_isTold) 34 = .ok (.getfield 46, 3) := by decide +kernel
theorem d_X12_isTold_37 : decode (yB m_X12_isTold) 37 = .ok (.iload_n 1, 1) := by decide +kernel
theorem d_X12_isTold_38 : decode (yB m_X12_isTold) 38 = .ok (.aaload, 1) := by decide +kernel
theorem d_X12_isTold_39 : decode (yB m_X12_isTold) 39 = .ok (.iload_n 3, 1) := by decide +kernel
theorem d_X12_isTold_40 : decode (yB m_X12_isTold) 40 = .ok (.iaload, 1) := by decide +kernel
theorem d_X12_isTold_41 : decode (yB m_X12_isTold) 41 = .ok (.aload_n 0, 1) := by decide +kernel
theorem d_X12_isTold_42 : decode (yB m_X12_isTold) 42 = .ok (.getfield 67, 3) := by decide +kernel
theorem d_X12_isTold_45 : decode (yB m_X12_isTold) 45 = .ok (.iload_n 3, 1) := by decide +kernel
theorem d_X12_isTold_46 : decode (yB m_X12_isTold) 46 = .ok (.aaload, 1) := by decide +kernel
theorem d_X12_isTold_47 : decode (yB m_X12_isTold) 47 = .ok (.iconst 0, 1) := by decide +kernel
theorem d_X12_isTold_48 : decode (yB m_X12_isTold) 48 = .ok (.iaload, 1) := by decide +kernel
theorem d_X12_isTold_49 : decode (yB m_X12_isTold) 49 = .ok (.if_icmp .ne 7, 3) := by decide +kernel
theorem d_X12_isTold_52 : decode (yB m_X12_isTold) 52 = .ok (.iconst 1, 1) := by decide +kernel
theorem d_X12_isTold_53 : decode (yB m_X12_isTold) 53 = .ok (.goto 4, 3) := by decide +kernel
theorem d_X12_isTold_56 : decode (yB m_X12_isTold) 56 = .ok (.iconst 0, 1) := by decide +kernel
theorem d_X12_isTold_57 : decode (yB m_X12_isTold) 57 = .ok (.istore_n 2, 1) := by decide +kernel
theorem d_X12_isTold_58 : decode (yB m_X12_isTold) 58 = .ok (.iinc 3 1, 3) := by decide +kernel
theorem d_X12_isTold_61 : decode (yB m_X12_isTold) 61 = .ok (.goto (-40), 3) := by decide +kernel
theorem d_X12_isTold_64 : decode (yB m_X12_isTold) 64 = .ok (.iload_n 2, 1) := by decide +kernel
theorem d_X12_isTold_65 : decode (yB m_X12_isTold) 65 = .ok (.ireturn, 1) := by decide +kernel
def fn_X12_isTold_21 (v1 : Int32) (D : zD) : Nat → Int32 → Int32 → Option Int32
  | 0, _, _ => none
  | n + 1, v2, v3 => (if (gI D 102 36) ≤ v3 then (zcb v2 <| (some v2)) else ((if v2 = 0 then (zcb v2 <| (some v2)) else (zck v1 8 <| zck v3 6 <| zck v3 8 <| (if (gI D (120 + v1.toNatClampNeg) v3.toNatClampNeg) = (gI D (170 + v3.toNatClampNeg) 0) then (((fn_X12_isTold_21 v1 D n) (1 : Int32) (v3 + (1 : Int32)))) else (((fn_X12_isTold_21 v1 D n) (0 : Int32) (v3 + (1 : Int32)))))))))
def fn_X12_isTold (v1 : Int32) (D : zD) : Option Int32 := zck v1 8 <| (if (gI D 109 v1.toNatClampNeg) = (gI D 102 36) then ((fn_X12_isTold_21 v1 D zFU (1 : Int32) (0 : Int32))) else ((fn_X12_isTold_21 v1 D zFU (0 : Int32) (0 : Int32))))
theorem s_X12_isTold_21 {X : zX} {Sh : zSh} {d : Nat} (hst : (zl X).stackTraces = false) (h0 : zSh0 Sh) (hd : 0 ≤ d) {v1 : Int32} (D : zD) : ∀ (n : Nat) (v2 : Int32) (v3 : Int32) , Rn X m_X12_isTold (d + 1) 21 [(0, .ref 102), (1, .int v1), (2, .int v2), (3, .int v3)] [] (Sh, D) ((oP Sh D) (fn_X12_isTold_21 v1 D n v2 v3)) := by
  intro n
  induction n with
  | zero => intro v2 v3; exact Rn_none rfl
  | succ n hk21 =>
    intro v2 v3
    rw [fn_X12_isTold_21]
    refine r_iload_n (pc := 21) 3 d_X12_isTold_21 rfl rfl ?_
    refine r_aload_n (pc := 22) 0 d_X12_isTold_22 rfl rfl ?_
    refine q_gI (pc := 23) g_X12_236 (K_102 h0) rfl d_X12_isTold_23 ?_
    refine r_icmp_ge (f := (oP Sh D)) (pc := 26) 64 d_X12_isTold_26 (by decide) (fun c3 => ?_) (fun c3 => ?_)
    · refine r_iload_n (pc := 64) 2 d_X12_isTold_64 rfl rfl ?_
      refine r_cb (f := (oP Sh D)) rfl (fun hb4 => ?_)
      exact r_zret (pc := 65) rfl hb4 d_X12_isTold_65
    · refine r_iload_n (pc := 29) 2 d_X12_isTold_29 rfl rfl ?_
      refine r_if_eq (f := (oP Sh D)) (pc := 30) 64 d_X12_isTold_30 (by decide) (fun c5 => ?_) (fun c5 => ?_)
      · refine r_iload_n (pc := 64) 2 d_X12_isTold_64 rfl rfl ?_
        refine r_cb (f := (oP Sh D)) rfl (fun hb6 => ?_)
        exact r_zret (pc := 65) rfl hb6 d_X12_isTold_65
      · refine r_aload_n (pc := 33) 0 d_X12_isTold_33 rfl rfl ?_
        refine r_getR (pc := 34) g_X12_46 (K_102 h0) rfl (R_102_25 h0) d_X12_isTold_34 ?_
        refine r_iload_n (pc := 37) 1 d_X12_isTold_37 rfl rfl ?_
        refine r_ck (f := (oP Sh D)) rfl (fun hc7 => ?_)
        refine q_aald (pc := 38) (j := v1.toNatClampNeg) (K_119 h0) (Or.inl ⟨rfl, rfl⟩) hc7 rfl (RW_119 h0 _ (z_lt hc7)) d_X12_isTold_38 ?_
        refine r_iload_n (pc := 39) 3 d_X12_isTold_39 rfl rfl ?_
        refine r_ck (f := (oP Sh D)) rfl (fun hc8 => ?_)
        refine q_iald (pc := 40) (j := v3.toNatClampNeg) (RK_119 h0 _ (z_lt hc7)) hc8 rfl d_X12_isTold_40 ?_
        refine r_aload_n (pc := 41) 0 d_X12_isTold_41 rfl rfl ?_
        refine r_getR (pc := 42) g_X12_67 (K_102 h0) rfl (R_102_40 h0) d_X12_isTold_42 ?_
        refine r_iload_n (pc := 45) 3 d_X12_isTold_45 rfl rfl ?_
        refine r_ck (f := (oP Sh D)) rfl (fun hc9 => ?_)
        refine q_aald (pc := 46) (j := v3.toNatClampNeg) (K_169 h0) (Or.inl ⟨rfl, rfl⟩) hc9 rfl (RW_169 h0 _ (z_lt hc9)) d_X12_isTold_46 ?_
        refine r_iconst (pc := 47) (0 : Int32) d_X12_isTold_47 rfl ?_
        refine q_iald (pc := 48) (j := 0) (RK_169 h0 _ (z_lt hc9)) (by unfold vp_in; decide) rfl d_X12_isTold_48 ?_
        refine r_icmp_ne (f := (oP Sh D)) (pc := 49) 56 d_X12_isTold_49 (by decide) (fun c10 => ?_) (fun c10 => ?_)
        · refine r_iconst (pc := 56) (0 : Int32) d_X12_isTold_56 rfl ?_
          refine r_istore_n (pc := 57) (ls' := [(2, .int (0 : Int32)), (0, .ref 102), (1, .int v1), (3, .int v3)]) d_X12_isTold_57 rfl (Nat.le_of_ble_eq_true rfl) rfl ?_
          refine r_iinc (pc := 58) ((v3 + (1 : Int32))) 3 (ls' := [(3, .int (v3 + (1 : Int32))), (2, .int (0 : Int32)), (0, .ref 102), (1, .int v1)]) d_X12_isTold_58 rfl rfl (Nat.le_of_ble_eq_true rfl) rfl ?_
          refine r_goto (pc := 61) 21 d_X12_isTold_61 (by decide) ?_
          refine r_pick [2, 3, 1, 0] (ls' := [(0, .ref 102), (1, .int v1), (2, .int (0 : Int32)), (3, .int (v3 + (1 : Int32)))]) rfl ?_
          exact hk21 (0 : Int32) (v3 + (1 : Int32)) 
        · refine r_iconst (pc := 52) (1 : Int32) d_X12_isTold_52 rfl ?_
          refine r_goto (pc := 53) 57 d_X12_isTold_53 (by decide) ?_
          refine r_istore_n (pc := 57) (ls' := [(2, .int (1 : Int32)), (0, .ref 102), (1, .int v1), (3, .int v3)]) d_X12_isTold_57 rfl (Nat.le_of_ble_eq_true rfl) rfl ?_
          refine r_iinc (pc := 58) ((v3 + (1 : Int32))) 3 (ls' := [(3, .int (v3 + (1 : Int32))), (2, .int (1 : Int32)), (0, .ref 102), (1, .int v1)]) d_X12_isTold_58 rfl rfl (Nat.le_of_ble_eq_true rfl) rfl ?_
          refine r_goto (pc := 61) 21 d_X12_isTold_61 (by decide) ?_
          refine r_pick [2, 3, 1, 0] (ls' := [(0, .ref 102), (1, .int v1), (2, .int (1 : Int32)), (3, .int (v3 + (1 : Int32)))]) rfl ?_
          exact hk21 (1 : Int32) (v3 + (1 : Int32)) 
theorem s_X12_isTold {X : zX} {Sh : zSh} {d : Nat} (hst : (zl X).stackTraces = false) (h0 : zSh0 Sh) (hd : 1 ≤ d) {v1 : Int32} {D : zD} : Sd X m_X12_isTold d [.ref 102, .int v1] (Sh, D) ((oP Sh D) (fn_X12_isTold v1 D)) := by
  obtain ⟨d, rfl⟩ : ∃ e, d = e + 1 := ⟨d - 1, by omega⟩
  replace hd : 0 ≤ d := by omega
  refine z_body ck_X12_isTold rfl (Nat.le_of_ble_eq_true rfl) rfl hst ?_
  rw [fn_X12_isTold]
  show Rn X m_X12_isTold (d + 1) 0 [(0, .ref 102), (1, .int v1)] [] (Sh, D) _
  refine r_aload_n (pc := 0) 0 d_X12_isTold_0 rfl rfl ?_
  refine r_getR (pc := 1) g_X12_38 (K_102 h0) rfl (R_102_23 h0) d_X12_isTold_1 ?_
  refine r_iload_n (pc := 4) 1 d_X12_isTold_4 rfl rfl ?_
  refine r_ck (f := (oP Sh D)) rfl (fun hc1 => ?_)
  refine q_iald (pc := 5) (j := v1.toNatClampNeg) (K_109 h0) hc1 rfl d_X12_isTold_5 ?_
  refine r_aload_n (pc := 6) 0 d_X12_isTold_6 rfl rfl ?_
  refine q_gI (pc := 7) g_X12_236 (K_102 h0) rfl d_X12_isTold_7 ?_
  refine r_icmp_ne (f := (oP Sh D)) (pc := 10) 17 d_X12_isTold_10 (by decide) (fun c2 => ?_) (fun c2 => ?_)
  · refine r_iconst (pc := 17) (0 : Int32) d_X12_isTold_17 rfl ?_
    refine r_istore_n (pc := 18) (ls' := [(2, .int (0 : Int32)), (0, .ref 102), (1, .int v1)]) d_X12_isTold_18 rfl (Nat.le_of_ble_eq_true rfl) rfl ?_
    refine r_iconst (pc := 19) (0 : Int32) d_X12_isTold_19 rfl ?_
    refine r_istore_n (pc := 20) (ls' := [(3, .int (0 : Int32)), (2, .int (0 : Int32)), (0, .ref 102), (1, .int v1)]) d_X12_isTold_20 rfl (Nat.le_of_ble_eq_true rfl) rfl ?_
    refine r_pick [2, 3, 1, 0] (ls' := [(0, .ref 102), (1, .int v1), (2, .int (0 : Int32)), (3, .int (0 : Int32))]) rfl ?_
    exact s_X12_isTold_21 hst h0 hd D zFU  (0 : Int32) (0 : Int32)
  · refine r_iconst (pc := 13) (1 : Int32) d_X12_isTold_13 rfl ?_
    refine r_goto (pc := 14) 18 d_X12_isTold_14 (by decide) ?_
    refine r_istore_n (pc := 18) (ls' := [(2, .int (1 : Int32)), (0, .ref 102), (1, .int v1)]) d_X12_isTold_18 rfl (Nat.le_of_ble_eq_true rfl) rfl ?_
    refine r_iconst (pc := 19) (0 : Int32) d_X12_isTold_19 rfl ?_
    refine r_istore_n (pc := 20) (ls' := [(3, .int (0 : Int32)), (2, .int (1 : Int32)), (0, .ref 102), (1, .int v1)]) d_X12_isTold_20 rfl (Nat.le_of_ble_eq_true rfl) rfl ?_
    refine r_pick [2, 3, 1, 0] (ls' := [(0, .ref 102), (1, .int v1), (2, .int (1 : Int32)), (3, .int (0 : Int32))]) rfl ?_
    exact s_X12_isTold_21 hst h0 hd D zFU  (1 : Int32) (0 : Int32)
/-! CoveredSignsModel.voyage -/
theorem d_X12_voyage_0 : decode (yB m_X12_voyage) 0 = .ok (.aload_n 0, 1) := by decide +kernel
theorem d_X12_voyage_1 : decode (yB m_X12_voyage) 1 = .ok (.iconst 0, 1) := by decide +kernel
theorem d_X12_voyage_2 : decode (yB m_X12_voyage) 2 = .ok (.putfield 113, 3) := by decide +kernel
theorem d_X12_voyage_5 : decode (yB m_X12_voyage) 5 = .ok (.iconst 0, 1) := by decide +kernel
theorem d_X12_voyage_6 : decode (yB m_X12_voyage) 6 = .ok (.istore_n 2, 1) := by decide +kernel
theorem d_X12_voyage_7 : decode (yB m_X12_voyage) 7 = .ok (.iconst 0, 1) := by decide +kernel
theorem d_X12_voyage_8 : decode (yB m_X12_voyage) 8 = .ok (.istore_n 3, 1) := by decide +kernel
theorem d_X12_voyage_9 : decode (yB m_X12_voyage) 9 = .ok (.iload_n 3, 1) := by decide +kernel
theorem d_X12_voyage_10 : decode (yB m_X12_voyage) 10 = .ok (.aload_n 0, 1) := by decide +kernel
theorem d_X12_voyage_11 : decode (yB m_X12_voyage) 11 = .ok (.getfield 227, 3) := by decide +kernel
theorem d_X12_voyage_14 : decode (yB m_X12_voyage) 14 = .ok (.if_icmp .ge 27, 3) := by decide +kernel
theorem d_X12_voyage_17 : decode (yB m_X12_voyage) 17 = .ok (.iload_n 2, 1) := by decide +kernel
theorem d_X12_voyage_18 : decode (yB m_X12_voyage) 18 = .ok (.ifCond .ne 11, 3) := by decide +kernel
theorem d_X12_voyage_21 : decode (yB m_X12_voyage) 21 = .ok (.aload_n 0, 1) := by decide +kernel
theorem d_X12_voyage_22 : decode (yB m_X12_voyage) 22 = .ok (.iload_n 3, 1) := by decide +kernel
theorem d_X12_voyage_23 : decode (yB m_X12_voyage) 23 = .ok (.invokevirtual 401, 3) := by decide +kernel
theorem d_X12_voyage_26 : decode (yB m_X12_voyage) 26 = .ok (.ifCond .eq 7, 3) := by decide +kernel
theorem d_X12_voyage_29 : decode (yB m_X12_voyage) 29 = .ok (.iconst 1, 1) := by decide +kernel
theorem d_X12_voyage_30 : decode (yB m_X12_voyage) 30 = .ok (.goto 4, 3) := by decide +kernel
theorem d_X12_voyage_33 : decode (yB m_X12_voyage) 33 = .ok (.iconst 0, 1) := by decide +kernel
theorem d_X12_voyage_34 : decode (yB m_X12_voyage) 34 = .ok (.istore_n 2, 1) := by decide +kernel
theorem d_X12_voyage_35 : decode (yB m_X12_voyage) 35 = .ok (.iinc 3 1, 3) := by decide +kernel
theorem d_X12_voyage_38 : decode (yB m_X12_voyage) 38 = .ok (.goto (-29), 3) := by decide +kernel
theorem d_X12_voyage_41 : decode (yB m_X12_voyage) 41 = .ok (.iload_n 2, 1) := by decide +kernel
theorem d_X12_voyage_42 : decode (yB m_X12_voyage) 42 = .ok (.ifCond .ne 5, 3) := by decide +kernel
theorem d_X12_voyage_45 : decode (yB m_X12_voyage) 45 = .ok (.iconst (-1), 1) := by decide +kernel
theorem d_X12_voyage_46 : decode (yB m_X12_voyage) 46 = .ok (.ireturn, 1) := by decide +kernel
theorem d_X12_voyage_47 : decode (yB m_X12_voyage) 47 = .ok (.aload_n 0, 1) := by decide +kernel
theorem d_X12_voyage_48 : decode (yB m_X12_voyage) 48 = .ok (.invokevirtual 395, 3) := by decide +kernel
theorem d_X12_voyage_51 : decode (yB m_X12_voyage) 51 = .ok (.iconst 0, 1) := by decide +kernel
theorem d_X12_voyage_52 : decode (yB m_X12_voyage) 52 = .ok (.istore_n 3, 1) := by decide +kernel
theorem d_X12_voyage_53 : decode (yB m_X12_voyage) 53 = .ok (.iload_n 3, 1) := by decide +kernel
theorem d_X12_voyage_54 : decode (yB m_X12_voyage) 54 = .ok (.bipush 100, 2) := by decide +kernel
theorem d_X12_voyage_56 : decode (yB m_X12_voyage) 56 = .ok (.if_icmp .ge 171, 3) := by decide +kernel
theorem d_X12_voyage_59 : decode (yB m_X12_voyage) 59 = .ok (.iconst 0, 1) := by decide +kernel
theorem d_X12_voyage_60 : decode (yB m_X12_voyage) 60 = .ok (.istore 4, 2) := by decide +kernel
theorem d_X12_voyage_62 : decode (yB m_X12_voyage) 62 = .ok (.iload 4, 2) := by decide +kernel
theorem d_X12_voyage_64 : decode (yB m_X12_voyage) 64 = .ok (.aload_n 0, 1) := by decide +kernel
theorem d_X12_voyage_65 : decode (yB m_X12_voyage) 65 = .ok (.getfield 236, 3) := by decide +kernel
theorem d_X12_voyage_68 : decode (yB m_X12_voyage) 68 = .ok (.if_icmp .ge 24, 3) := by decide +kernel
theorem d_X12_voyage_71 : decode (yB m_X12_voyage) 71 = .ok (.aload_n 0, 1) := by decide +kernel
theorem d_X12_voyage_72 : decode (yB m_X12_voyage) 72 = .ok (.getfield 110, 3) := by decide +kernel
theorem d_X12_voyage_75 : decode (yB m_X12_voyage) 75 = .ok (.iload 4, 2) := by decide +kernel
theorem d_X12_voyage_77 : decode (yB m_X12_voyage) 77 = .ok (.aload_n 0, 1) := by decide +kernel
theorem d_X12_voyage_78 : decode (yB m_X12_voyage) 78 = .ok (.iload 4, 2) := by decide +kernel
theorem d_X12_voyage_80 : decode (yB m_X12_voyage) 80 = .ok (.iload_n 3, 1) := by decide +kernel
theorem d_X12_voyage_81 : decode (yB m_X12_voyage) 81 = .ok (.iload_n 1, 1) := by decide +kernel
theorem d_X12_voyage_82 : decode (yB m_X12_voyage) 82 = .ok (.invokevirtual 398, 3) := by decide +kernel
theorem d_X12_voyage_85 : decode (yB m_X12_voyage) 85 = .ok (.iastore, 1) := by decide +kernel
theorem d_X12_voyage_86 : decode (yB m_X12_voyage) 86 = .ok (.iinc 4 1, 3) := by decide +kernel
theorem d_X12_voyage_89 : decode (yB m_X12_voyage) 89 = .ok (.goto (-27), 3) := by decide +kernel
theorem d_X12_voyage_92 : decode (yB m_X12_voyage) 92 = .ok (.iconst 1, 1) := by decide +kernel
theorem d_X12_voyage_93 : decode (yB m_X12_voyage) 93 = .ok (.istore 4, 2) := by decide +kernel
theorem d_X12_voyage_95 : decode (yB m_X12_voyage) 95 = .ok (.iconst 0, 1) := by decide +kernel
theorem d_X12_voyage_96 : decode (yB m_X12_voyage) 96 = .ok (.istore 5, 2) := by decide +kernel
theorem d_X12_voyage_98 : decode (yB m_X12_voyage) 98 = .ok (.iload 5, 2) := by decide +kernel
theorem d_X12_voyage_100 : decode (yB m_X12_voyage) 100 = .ok (.aload_n 0, 1) := by decide +kernel
theorem d_X12_voyage_101 : decode (yB m_X12_voyage) 101 = .ok (.getfield 227, 3) := by decide +kernel
theorem d_X12_voyage_104 : decode (yB m_X12_voyage) 104 = .ok (.if_icmp .ge 110, 3) := by decide +kernel
theorem d_X12_voyage_107 : decode (yB m_X12_voyage) 107 = .ok (.iload 4, 2) := by decide +kernel
theorem d_X12_voyage_109 : decode (yB m_X12_voyage) 109 = .ok (.ifCond .eq 105, 3) := by decide +kernel
theorem d_X12_voyage_112 : decode (yB m_X12_voyage) 112 = .ok (.aload_n 0, 1) := by decide +kernel
theorem d_X12_voyage_113 : decode (yB m_X12_voyage) 113 = .ok (.getfield 38, 3) := by decide +kernel
theorem d_X12_voyage_116 : decode (yB m_X12_voyage) 116 = .ok (.iload 5, 2) := by decide +kernel
theorem d_X12_voyage_118 : decode (yB m_X12_voyage) 118 = .ok (.iaload, 1) := by decide +kernel
theorem d_X12_voyage_119 : decode (yB m_X12_voyage) 119 = .ok (.aload_n 0, 1) := by decide +kernel
theorem d_X12_voyage_120 : decode (yB m_X12_voyage) 120 = .ok (.getfield 236, 3) := by decide +kernel
theorem d_X12_voyage_123 : decode (yB m_X12_voyage) 123 = .ok (.if_icmp .ne 7, 3) := by decide +kernel
theorem d_X12_voyage_126 : decode (yB m_X12_voyage) 126 = .ok (.iconst 1, 1) := by decide +kernel
theorem d_X12_voyage_127 : decode (yB m_X12_voyage) 127 = .ok (.goto 4, 3) := by decide +kernel
theorem d_X12_voyage_130 : decode (yB m_X12_voyage) 130 = .ok (.iconst 0, 1) := by decide +kernel
theorem d_X12_voyage_131 : decode (yB m_X12_voyage) 131 = .ok (.istore 6, 2) := by decide +kernel
theorem d_X12_voyage_133 : decode (yB m_X12_voyage) 133 = .ok (.iconst 0, 1) := by decide +kernel
theorem d_X12_voyage_134 : decode (yB m_X12_voyage) 134 = .ok (.istore 7, 2) := by decide +kernel
theorem d_X12_voyage_136 : decode (yB m_X12_voyage) 136 = .ok (.iload 7, 2) := by decide +kernel
theorem d_X12_voyage_138 : decode (yB m_X12_voyage) 138 = .ok (.aload_n 0, 1) := by decide +kernel
theorem d_X12_voyage_139 : decode (yB m_X12_voyage) 139 = .ok (.getfield 236, 3) := by decide +kernel
theorem d_X12_voyage_142 : decode (yB m_X12_voyage) 142 = .ok (.if_icmp .ge 45, 3) := by decide +kernel
theorem d_X12_voyage_145 : decode (yB m_X12_voyage) 145 = .ok (.iload 6, 2) := by decide +kernel
theorem d_X12_voyage_147 : decode (yB m_X12_voyage) 147 = .ok (.ifCond .eq 40, 3) := by decide +kernel
theorem d_X12_voyage_150 : decode (yB m_X12_voyage) 150 = .ok (.aload_n 0, 1) := by decide +kernel
theorem d_X12_voyage_151 : decode (yB m_X12_voyage) 151 = .ok (.getfield 110, 3) := by decide +kernel
theorem d_X12_voyage_154 : decode (yB m_X12_voyage) 154 = .ok (.iload 7, 2) := by decide +kernel
theorem d_X12_voyage_156 : decode (yB m_X12_voyage) 156 = .ok (.iaload, 1) := by decide +kernel
theorem d_X12_voyage_157 : decode (yB m_X12_voyage) 157 = .ok (.aload_n 0, 1) := by decide +kernel
theorem d_X12_voyage_158 : decode (yB m_X12_voyage) 158 = .ok (.getfield 46, 3) := by decide +kernel
theorem d_X12_voyage_161 : decode (yB m_X12_voyage) 161 = .ok (.iload 5, 2) := by decide +kernel
theorem d_X12_voyage_163 : decode (yB m_X12_voyage) 163 = .ok (.aaload, 1) := by decide +kernel
theorem d_X12_voyage_164 : decode (yB m_X12_voyage) 164 = .ok (.iload 7, 2) := by decide +kernel
theorem d_X12_voyage_166 : decode (yB m_X12_voyage) 166 = .ok (.iaload, 1) := by decide +kernel
theorem d_X12_voyage_167 : decode (yB m_X12_voyage) 167 = .ok (.ishr, 1) := by decide +kernel
theorem d_X12_voyage_168 : decode (yB m_X12_voyage) 168 = .ok (.iconst 1, 1) := by decide +kernel
theorem d_X12_voyage_169 : decode (yB m_X12_voyage) 169 = .ok (.iand, 1) := by decide +kernel
theorem d_X12_voyage_170 : decode (yB m_X12_voyage) 170 = .ok (.iconst 1, 1) := by decide +kernel
theorem d_X12_voyage_171 : decode (yB m_X12_voyage) 171 = .ok (.if_icmp .ne 7, 3) := by decide +kernel
theorem d_X12_voyage_174 : decode (yB m_X12_voyage) 174 = .ok (.iconst 1, 1) := by decide +kernel
theorem d_X12_voyage_175 : decode (yB m_X12_voyage) 175 = .ok (.goto 4, 3) := by decide +kernel
theorem d_X12_voyage_178 : decode (yB m_X12_voyage) 178 = .ok (.iconst 0, 1) := by decide +kernel
theorem d_X12_voyage_179 : decode (yB m_X12_voyage) 179 = .ok (.istore 6, 2) := by decide +kernel
theorem d_X12_voyage_181 : decode (yB m_X12_voyage) 181 = .ok (.iinc 7 1, 3) := by decide +kernel
theorem d_X12_voyage_184 : decode (yB m_X12_voyage) 184 = .ok (.goto (-48), 3) := by decide +kernel
theorem d_X12_voyage_187 : decode (yB m_X12_voyage) 187 = .ok (.iload 6, 2) := by decide +kernel
theorem d_X12_voyage_189 : decode (yB m_X12_voyage) 189 = .ok (.ifCond .eq 12, 3) := by decide +kernel
theorem d_X12_voyage_192 : decode (yB m_X12_voyage) 192 = .ok (.aload_n 0, 1) := by decide +kernel
theorem d_X12_voyage_193 : decode (yB m_X12_voyage) 193 = .ok (.iload 5, 2) := by decide +kernel
theorem d_X12_voyage_195 : decode (yB m_X12_voyage) 195 = .ok (.invokevirtual 401, 3) := by decide +kernel
theorem d_X12_voyage_198 : decode (yB m_X12_voyage) 198 = .ok (.ifCond .eq 7, 3) := by decide +kernel
theorem d_X12_voyage_201 : decode (yB m_X12_voyage) 201 = .ok (.iconst 1, 1) := by decide +kernel
theorem d_X12_voyage_202 : decode (yB m_X12_voyage) 202 = .ok (.goto 4, 3) := by decide +kernel
theorem d_X12_voyage_205 : decode (yB m_X12_voyage) 205 = .ok (.iconst 0, 1) := by decide +kernel
theorem d_X12_voyage_206 : decode (yB m_X12_voyage) 206 = .ok (.istore 4, 2) := by decide +kernel
theorem d_X12_voyage_208 : decode (yB m_X12_voyage) 208 = .ok (.iinc 5 1, 3) := by decide +kernel
theorem d_X12_voyage_211 : decode (yB m_X12_voyage) 211 = .ok (.goto (-113), 3) := by decide +kernel
theorem d_X12_voyage_214 : decode (yB m_X12_voyage) 214 = .ok (.iload 4, 2) := by decide +kernel
theorem d_X12_voyage_216 : decode (yB m_X12_voyage) 216 = .ok (.ifCond .eq 5, 3) := by decide +kernel
theorem d_X12_voyage_219 : decode (yB m_X12_voyage) 219 = .ok (.iload_n 3, 1) := by decide +kernel
theorem d_X12_voyage_220 : decode (yB m_X12_voyage) 220 = .ok (.ireturn, 1) := by decide +kernel
theorem d_X12_voyage_221 : decode (yB m_X12_voyage) 221 = .ok (.iinc 3 1, 3) := by decide +kernel
theorem d_X12_voyage_224 : decode (yB m_X12_voyage) 224 = .ok (.goto (-171), 3) := by decide +kernel
theorem d_X12_voyage_227 : decode (yB m_X12_voyage) 227 = .ok (.iconst (-1), 1) := by decide +kernel
theorem d_X12_voyage_228 : decode (yB m_X12_voyage) 228 = .ok (.ireturn, 1) := by decide +kernel
def fn_X12_voyage_214 (v1 : Int32) (k53 : Int32 → zD → Option (Int32 × zD)) (v3 : Int32) (v4 : Int32) (D : zD) : Option (Int32 × zD) := (if v4 = 0 then ((k53 (v3 + (1 : Int32)) D)) else ((some (v3, D))))
def fn_X12_voyage_187 (v1 : Int32) (k98 : Int32 → Int32 → Int32 → zD → Option (Int32 × zD)) (v3 : Int32) (v5 : Int32) (v6 : Int32) (D : zD) : Option (Int32 × zD) := (if v6 = 0 then ((k98 v3 (1 : Int32) (v5 + (1 : Int32)) D)) else ((fn_X12_isTold v5 D).bind fun x14 => (if x14 = 0 then ((k98 v3 (0 : Int32) (v5 + (1 : Int32)) D)) else ((k98 v3 (1 : Int32) (v5 + (1 : Int32)) D)))))
def fn_X12_voyage_136 (v1 : Int32) (k98 : Int32 → Int32 → Int32 → zD → Option (Int32 × zD)) : Nat → Int32 → Int32 → Int32 → Int32 → zD → Option (Int32 × zD)
  | 0, _, _, _, _, _ => none
  | n + 1, v3, v5, v6, v7, D => (if (gI D 102 36) ≤ v7 then ((fn_X12_voyage_187 v1 k98 v3 v5 v6 D)) else ((if v6 = 0 then ((fn_X12_voyage_187 v1 k98 v3 v5 v6 D)) else (zck v7 8 <| zck v5 8 <| zck v7 6 <| (if (((gI D 205 v7.toNatClampNeg) >>> ((gI D (120 + v5.toNatClampNeg) v7.toNatClampNeg) &&& 31)) &&& (1 : Int32)) = (1 : Int32) then (((fn_X12_voyage_136 v1 k98 n) v3 v5 (1 : Int32) (v7 + (1 : Int32)) D)) else (((fn_X12_voyage_136 v1 k98 n) v3 v5 (0 : Int32) (v7 + (1 : Int32)) D)))))))
def fn_X12_voyage_98 (v1 : Int32) (k53 : Int32 → zD → Option (Int32 × zD)) : Nat → Int32 → Int32 → Int32 → zD → Option (Int32 × zD)
  | 0, _, _, _, _ => none
  | n + 1, v3, v4, v5, D => (if (gI D 102 17) ≤ v5 then ((fn_X12_voyage_214 v1 k53 v3 v4 D)) else ((if v4 = 0 then ((fn_X12_voyage_214 v1 k53 v3 v4 D)) else (zck v5 8 <| (if (gI D 109 v5.toNatClampNeg) = (gI D 102 36) then ((fn_X12_voyage_136 v1 (fn_X12_voyage_98 v1 k53 n) zFU v3 v5 (1 : Int32) (0 : Int32) D)) else ((fn_X12_voyage_136 v1 (fn_X12_voyage_98 v1 k53 n) zFU v3 v5 (0 : Int32) (0 : Int32) D)))))))
def fn_X12_voyage_62 (v1 : Int32) (k53 : Int32 → zD → Option (Int32 × zD)) : Nat → Int32 → Int32 → zD → Option (Int32 × zD)
  | 0, _, _, _ => none
  | n + 1, v3, v4, D => (if (gI D 102 36) ≤ v4 then ((fn_X12_voyage_98 v1 k53 zFU v3 (1 : Int32) (0 : Int32) D)) else ((fn_X12_guessNow v4 v3 v1 D).bind fun q21 => zck v4 8 <| zlet (sI q21.2 205 v4.toNatClampNeg q21.1) fun D23 => ((fn_X12_voyage_62 v1 k53 n) v3 (v4 + (1 : Int32)) D23)))
def fn_X12_voyage_53 (v1 : Int32) : Nat → Int32 → zD → Option (Int32 × zD)
  | 0, _, _ => none
  | n + 1, v3, D => (if (100 : Int32) ≤ v3 then ((some ((-1 : Int32), D))) else ((fn_X12_voyage_62 v1 (fn_X12_voyage_53 v1 n) zFU v3 (0 : Int32) D)))
def fn_X12_voyage_41 (v1 : Int32) (v2 : Int32) (D : zD) : Option (Int32 × zD) := (if v2 = 0 then ((some ((-1 : Int32), D))) else ((fn_X12_layNone D).bind fun D4 => (fn_X12_voyage_53 v1 zFU (0 : Int32) D4)))
def fn_X12_voyage_9 (v1 : Int32) : Nat → Int32 → Int32 → zD → Option (Int32 × zD)
  | 0, _, _, _ => none
  | n + 1, v2, v3, D => (if (gI D 102 17) ≤ v3 then ((fn_X12_voyage_41 v1 v2 D)) else ((if v2 = 0 then ((fn_X12_isTold v3 D).bind fun x25 => (if x25 = 0 then (((fn_X12_voyage_9 v1 n) (0 : Int32) (v3 + (1 : Int32)) D)) else (((fn_X12_voyage_9 v1 n) (1 : Int32) (v3 + (1 : Int32)) D)))) else (((fn_X12_voyage_9 v1 n) (1 : Int32) (v3 + (1 : Int32)) D)))))
def fn_X12_voyage (v1 : Int32) (D : zD) : Option (Int32 × zD) := zlet (sI D 102 0 (0 : Int32)) fun D1 => (fn_X12_voyage_9 v1 zFU (0 : Int32) (0 : Int32) D1)
theorem s_X12_voyage_214 {X : zX} {Sh : zSh} {d : Nat} (hst : (zl X).stackTraces = false) (h0 : zSh0 Sh) (hd : 4 ≤ d) {v1 : Int32} (k53 : Int32 → zD → Option (Int32 × zD)) (hk53 : ∀ (v3 : Int32) (D : zD) , Rn X m_X12_voyage (d + 1) 53 [(0, .ref 102), (1, .int v1), (3, .int v3)] [] (Sh, D) ((oI Sh) (k53 v3 D))) (v3 : Int32) (v4 : Int32) (D : zD)  : Rn X m_X12_voyage (d + 1) 214 [(0, .ref 102), (1, .int v1), (3, .int v3), (4, .int v4)] [] (Sh, D) ((oI Sh) (fn_X12_voyage_214 v1 k53 v3 v4 D)) := by
  rw [fn_X12_voyage_214]
  refine r_iload (pc := 214) 3 d_X12_voyage_214 rfl ?_
  refine r_if_eq (f := (oI Sh)) (pc := 216) 221 d_X12_voyage_216 (by decide) (fun c8 => ?_) (fun c8 => ?_)
  · refine r_iinc (pc := 221) ((v3 + (1 : Int32))) 2 (ls' := [(3, .int (v3 + (1 : Int32))), (0, .ref 102), (1, .int v1), (4, .int v4)]) d_X12_voyage_221 rfl rfl (Nat.le_of_ble_eq_true rfl) rfl ?_
    refine r_goto (pc := 224) 53 d_X12_voyage_224 (by decide) ?_
    refine r_pick [1, 2, 0] (ls' := [(0, .ref 102), (1, .int v1), (3, .int (v3 + (1 : Int32)))]) rfl ?_
    exact hk53 (v3 + (1 : Int32)) D 
  · refine r_iload_n (pc := 219) 2 d_X12_voyage_219 rfl rfl ?_
    exact r_iret (pc := 220) rfl d_X12_voyage_220
theorem s_X12_voyage_187 {X : zX} {Sh : zSh} {d : Nat} (hst : (zl X).stackTraces = false) (h0 : zSh0 Sh) (hd : 4 ≤ d) {v1 : Int32} (k98 : Int32 → Int32 → Int32 → zD → Option (Int32 × zD)) (hk98 : ∀ (v3 : Int32) (v4 : Int32) (v5 : Int32) (D : zD) , Rn X m_X12_voyage (d + 1) 98 [(0, .ref 102), (1, .int v1), (3, .int v3), (4, .int v4), (5, .int v5)] [] (Sh, D) ((oI Sh) (k98 v3 v4 v5 D))) (v3 : Int32) (v5 : Int32) (v6 : Int32) (D : zD)  : Rn X m_X12_voyage (d + 1) 187 [(0, .ref 102), (1, .int v1), (3, .int v3), (5, .int v5), (6, .int v6)] [] (Sh, D) ((oI Sh) (fn_X12_voyage_187 v1 k98 v3 v5 v6 D)) := by
  rw [fn_X12_voyage_187]
  refine r_iload (pc := 187) 4 d_X12_voyage_187 rfl ?_
  refine r_if_eq (f := (oI Sh)) (pc := 189) 201 d_X12_voyage_189 (by decide) (fun c13 => ?_) (fun c13 => ?_)
  · refine r_iconst (pc := 201) (1 : Int32) d_X12_voyage_201 rfl ?_
    refine r_goto (pc := 202) 206 d_X12_voyage_202 (by decide) ?_
    refine r_istore (pc := 206) (ls' := [(4, .int (1 : Int32)), (0, .ref 102), (1, .int v1), (3, .int v3), (5, .int v5), (6, .int v6)]) d_X12_voyage_206 (Nat.le_of_ble_eq_true rfl) rfl ?_
    refine r_iinc (pc := 208) ((v5 + (1 : Int32))) 4 (ls' := [(5, .int (v5 + (1 : Int32))), (4, .int (1 : Int32)), (0, .ref 102), (1, .int v1), (3, .int v3), (6, .int v6)]) d_X12_voyage_208 rfl rfl (Nat.le_of_ble_eq_true rfl) rfl ?_
    refine r_goto (pc := 211) 98 d_X12_voyage_211 (by decide) ?_
    refine r_pick [2, 3, 4, 1, 0] (ls' := [(0, .ref 102), (1, .int v1), (3, .int v3), (4, .int (1 : Int32)), (5, .int (v5 + (1 : Int32)))]) rfl ?_
    exact hk98 v3 (1 : Int32) (v5 + (1 : Int32)) D 
  · refine r_aload_n (pc := 192) 0 d_X12_voyage_192 rfl rfl ?_
    refine r_iload (pc := 193) 3 d_X12_voyage_193 rfl ?_
    refine q_cP (f := (oI Sh)) (av := [.ref 102, .int v5]) (st := []) (z_runV ck_X12_isTold rfl ml_X12_401 ci_X12_isTold cv_X12_isTold (K_102 h0) (ci := 12) rfl rfl (Nat.le_of_ble_eq_true rfl) d_X12_voyage_195) (s_X12_isTold hst h0 (by omega)) kp_I (fun x14 _ => ?_)
    refine r_if_eq (f := (oI Sh)) (pc := 198) 205 d_X12_voyage_198 (by decide) (fun c15 => ?_) (fun c15 => ?_)
    · refine r_iconst (pc := 205) (0 : Int32) d_X12_voyage_205 rfl ?_
      refine r_istore (pc := 206) (ls' := [(4, .int (0 : Int32)), (0, .ref 102), (1, .int v1), (3, .int v3), (5, .int v5), (6, .int v6)]) d_X12_voyage_206 (Nat.le_of_ble_eq_true rfl) rfl ?_
      refine r_iinc (pc := 208) ((v5 + (1 : Int32))) 4 (ls' := [(5, .int (v5 + (1 : Int32))), (4, .int (0 : Int32)), (0, .ref 102), (1, .int v1), (3, .int v3), (6, .int v6)]) d_X12_voyage_208 rfl rfl (Nat.le_of_ble_eq_true rfl) rfl ?_
      refine r_goto (pc := 211) 98 d_X12_voyage_211 (by decide) ?_
      refine r_pick [2, 3, 4, 1, 0] (ls' := [(0, .ref 102), (1, .int v1), (3, .int v3), (4, .int (0 : Int32)), (5, .int (v5 + (1 : Int32)))]) rfl ?_
      exact hk98 v3 (0 : Int32) (v5 + (1 : Int32)) D 
    · refine r_iconst (pc := 201) (1 : Int32) d_X12_voyage_201 rfl ?_
      refine r_goto (pc := 202) 206 d_X12_voyage_202 (by decide) ?_
      refine r_istore (pc := 206) (ls' := [(4, .int (1 : Int32)), (0, .ref 102), (1, .int v1), (3, .int v3), (5, .int v5), (6, .int v6)]) d_X12_voyage_206 (Nat.le_of_ble_eq_true rfl) rfl ?_
      refine r_iinc (pc := 208) ((v5 + (1 : Int32))) 4 (ls' := [(5, .int (v5 + (1 : Int32))), (4, .int (1 : Int32)), (0, .ref 102), (1, .int v1), (3, .int v3), (6, .int v6)]) d_X12_voyage_208 rfl rfl (Nat.le_of_ble_eq_true rfl) rfl ?_
      refine r_goto (pc := 211) 98 d_X12_voyage_211 (by decide) ?_
      refine r_pick [2, 3, 4, 1, 0] (ls' := [(0, .ref 102), (1, .int v1), (3, .int v3), (4, .int (1 : Int32)), (5, .int (v5 + (1 : Int32)))]) rfl ?_
      exact hk98 v3 (1 : Int32) (v5 + (1 : Int32)) D 
theorem s_X12_voyage_136 {X : zX} {Sh : zSh} {d : Nat} (hst : (zl X).stackTraces = false) (h0 : zSh0 Sh) (hd : 4 ≤ d) {v1 : Int32} (k98 : Int32 → Int32 → Int32 → zD → Option (Int32 × zD)) (hk98 : ∀ (v3 : Int32) (v4 : Int32) (v5 : Int32) (D : zD) , Rn X m_X12_voyage (d + 1) 98 [(0, .ref 102), (1, .int v1), (3, .int v3), (4, .int v4), (5, .int v5)] [] (Sh, D) ((oI Sh) (k98 v3 v4 v5 D))) : ∀ (n : Nat) (v3 : Int32) (v5 : Int32) (v6 : Int32) (v7 : Int32) (D : zD) , Rn X m_X12_voyage (d + 1) 136 [(0, .ref 102), (1, .int v1), (3, .int v3), (5, .int v5), (6, .int v6), (7, .int v7)] [] (Sh, D) ((oI Sh) (fn_X12_voyage_136 v1 k98 n v3 v5 v6 v7 D)) := by
  intro n
  induction n with
  | zero => intro v3 v5 v6 v7 D; exact Rn_none rfl
  | succ n hk136 =>
    intro v3 v5 v6 v7 D
    rw [fn_X12_voyage_136]
    refine r_iload (pc := 136) 5 d_X12_voyage_136 rfl ?_
    refine r_aload_n (pc := 138) 0 d_X12_voyage_138 rfl rfl ?_
    refine q_gI (pc := 139) g_X12_236 (K_102 h0) rfl d_X12_voyage_139 ?_
    refine r_icmp_ge (f := (oI Sh)) (pc := 142) 187 d_X12_voyage_142 (by decide) (fun c12 => ?_) (fun c12 => ?_)
    · refine r_pick [0, 1, 2, 3, 4] (ls' := [(0, .ref 102), (1, .int v1), (3, .int v3), (5, .int v5), (6, .int v6)]) rfl ?_
      exact s_X12_voyage_187 hst h0 hd k98 hk98 v3 v5 v6 D
    · refine r_iload (pc := 145) 4 d_X12_voyage_145 rfl ?_
      refine r_if_eq (f := (oI Sh)) (pc := 147) 187 d_X12_voyage_147 (by decide) (fun c16 => ?_) (fun c16 => ?_)
      · refine r_pick [0, 1, 2, 3, 4] (ls' := [(0, .ref 102), (1, .int v1), (3, .int v3), (5, .int v5), (6, .int v6)]) rfl ?_
        exact s_X12_voyage_187 hst h0 hd k98 hk98 v3 v5 v6 D
      · refine r_aload_n (pc := 150) 0 d_X12_voyage_150 rfl rfl ?_
        refine r_getR (pc := 151) g_X12_110 (K_102 h0) rfl (R_102_56 h0) d_X12_voyage_151 ?_
        refine r_iload (pc := 154) 5 d_X12_voyage_154 rfl ?_
        refine r_ck (f := (oI Sh)) rfl (fun hc17 => ?_)
        refine q_iald (pc := 156) (j := v7.toNatClampNeg) (K_205 h0) hc17 rfl d_X12_voyage_156 ?_
        refine r_aload_n (pc := 157) 0 d_X12_voyage_157 rfl rfl ?_
        refine r_getR (pc := 158) g_X12_46 (K_102 h0) rfl (R_102_25 h0) d_X12_voyage_158 ?_
        refine r_iload (pc := 161) 3 d_X12_voyage_161 rfl ?_
        refine r_ck (f := (oI Sh)) rfl (fun hc18 => ?_)
        refine q_aald (pc := 163) (j := v5.toNatClampNeg) (K_119 h0) (Or.inl ⟨rfl, rfl⟩) hc18 rfl (RW_119 h0 _ (z_lt hc18)) d_X12_voyage_163 ?_
        refine r_iload (pc := 164) 5 d_X12_voyage_164 rfl ?_
        refine r_ck (f := (oI Sh)) rfl (fun hc19 => ?_)
        refine q_iald (pc := 166) (j := v7.toNatClampNeg) (RK_119 h0 _ (z_lt hc18)) hc19 rfl d_X12_voyage_166 ?_
        refine r_ishr (pc := 167) d_X12_voyage_167 ?_
        refine r_iconst (pc := 168) (1 : Int32) d_X12_voyage_168 rfl ?_
        refine r_iand (pc := 169) d_X12_voyage_169 ?_
        refine r_iconst (pc := 170) (1 : Int32) d_X12_voyage_170 rfl ?_
        refine r_icmp_ne (f := (oI Sh)) (pc := 171) 178 d_X12_voyage_171 (by decide) (fun c20 => ?_) (fun c20 => ?_)
        · refine r_iconst (pc := 178) (0 : Int32) d_X12_voyage_178 rfl ?_
          refine r_istore (pc := 179) (ls' := [(6, .int (0 : Int32)), (0, .ref 102), (1, .int v1), (3, .int v3), (5, .int v5), (7, .int v7)]) d_X12_voyage_179 (Nat.le_of_ble_eq_true rfl) rfl ?_
          refine r_iinc (pc := 181) ((v7 + (1 : Int32))) 5 (ls' := [(7, .int (v7 + (1 : Int32))), (6, .int (0 : Int32)), (0, .ref 102), (1, .int v1), (3, .int v3), (5, .int v5)]) d_X12_voyage_181 rfl rfl (Nat.le_of_ble_eq_true rfl) rfl ?_
          refine r_goto (pc := 184) 136 d_X12_voyage_184 (by decide) ?_
          refine r_pick [2, 3, 4, 5, 1, 0] (ls' := [(0, .ref 102), (1, .int v1), (3, .int v3), (5, .int v5), (6, .int (0 : Int32)), (7, .int (v7 + (1 : Int32)))]) rfl ?_
          exact hk136 v3 v5 (0 : Int32) (v7 + (1 : Int32)) D 
        · refine r_iconst (pc := 174) (1 : Int32) d_X12_voyage_174 rfl ?_
          refine r_goto (pc := 175) 179 d_X12_voyage_175 (by decide) ?_
          refine r_istore (pc := 179) (ls' := [(6, .int (1 : Int32)), (0, .ref 102), (1, .int v1), (3, .int v3), (5, .int v5), (7, .int v7)]) d_X12_voyage_179 (Nat.le_of_ble_eq_true rfl) rfl ?_
          refine r_iinc (pc := 181) ((v7 + (1 : Int32))) 5 (ls' := [(7, .int (v7 + (1 : Int32))), (6, .int (1 : Int32)), (0, .ref 102), (1, .int v1), (3, .int v3), (5, .int v5)]) d_X12_voyage_181 rfl rfl (Nat.le_of_ble_eq_true rfl) rfl ?_
          refine r_goto (pc := 184) 136 d_X12_voyage_184 (by decide) ?_
          refine r_pick [2, 3, 4, 5, 1, 0] (ls' := [(0, .ref 102), (1, .int v1), (3, .int v3), (5, .int v5), (6, .int (1 : Int32)), (7, .int (v7 + (1 : Int32)))]) rfl ?_
          exact hk136 v3 v5 (1 : Int32) (v7 + (1 : Int32)) D 
theorem s_X12_voyage_98 {X : zX} {Sh : zSh} {d : Nat} (hst : (zl X).stackTraces = false) (h0 : zSh0 Sh) (hd : 4 ≤ d) {v1 : Int32} (k53 : Int32 → zD → Option (Int32 × zD)) (hk53 : ∀ (v3 : Int32) (D : zD) , Rn X m_X12_voyage (d + 1) 53 [(0, .ref 102), (1, .int v1), (3, .int v3)] [] (Sh, D) ((oI Sh) (k53 v3 D))) : ∀ (n : Nat) (v3 : Int32) (v4 : Int32) (v5 : Int32) (D : zD) , Rn X m_X12_voyage (d + 1) 98 [(0, .ref 102), (1, .int v1), (3, .int v3), (4, .int v4), (5, .int v5)] [] (Sh, D) ((oI Sh) (fn_X12_voyage_98 v1 k53 n v3 v4 v5 D)) := by
  intro n
  induction n with
  | zero => intro v3 v4 v5 D; exact Rn_none rfl
  | succ n hk98 =>
    intro v3 v4 v5 D
    rw [fn_X12_voyage_98]
    refine r_iload (pc := 98) 4 d_X12_voyage_98 rfl ?_
    refine r_aload_n (pc := 100) 0 d_X12_voyage_100 rfl rfl ?_
    refine q_gI (pc := 101) g_X12_227 (K_102 h0) rfl d_X12_voyage_101 ?_
    refine r_icmp_ge (f := (oI Sh)) (pc := 104) 214 d_X12_voyage_104 (by decide) (fun c7 => ?_) (fun c7 => ?_)
    · refine r_pick [0, 1, 2, 3] (ls' := [(0, .ref 102), (1, .int v1), (3, .int v3), (4, .int v4)]) rfl ?_
      exact s_X12_voyage_214 hst h0 hd k53 hk53 v3 v4 D
    · refine r_iload (pc := 107) 3 d_X12_voyage_107 rfl ?_
      refine r_if_eq (f := (oI Sh)) (pc := 109) 214 d_X12_voyage_109 (by decide) (fun c9 => ?_) (fun c9 => ?_)
      · refine r_pick [0, 1, 2, 3] (ls' := [(0, .ref 102), (1, .int v1), (3, .int v3), (4, .int v4)]) rfl ?_
        exact s_X12_voyage_214 hst h0 hd k53 hk53 v3 v4 D
      · refine r_aload_n (pc := 112) 0 d_X12_voyage_112 rfl rfl ?_
        refine r_getR (pc := 113) g_X12_38 (K_102 h0) rfl (R_102_23 h0) d_X12_voyage_113 ?_
        refine r_iload (pc := 116) 4 d_X12_voyage_116 rfl ?_
        refine r_ck (f := (oI Sh)) rfl (fun hc10 => ?_)
        refine q_iald (pc := 118) (j := v5.toNatClampNeg) (K_109 h0) hc10 rfl d_X12_voyage_118 ?_
        refine r_aload_n (pc := 119) 0 d_X12_voyage_119 rfl rfl ?_
        refine q_gI (pc := 120) g_X12_236 (K_102 h0) rfl d_X12_voyage_120 ?_
        refine r_icmp_ne (f := (oI Sh)) (pc := 123) 130 d_X12_voyage_123 (by decide) (fun c11 => ?_) (fun c11 => ?_)
        · refine r_iconst (pc := 130) (0 : Int32) d_X12_voyage_130 rfl ?_
          refine r_istore (pc := 131) (ls' := [(6, .int (0 : Int32)), (0, .ref 102), (1, .int v1), (3, .int v3), (4, .int v4), (5, .int v5)]) d_X12_voyage_131 (Nat.le_of_ble_eq_true rfl) rfl ?_
          refine r_iconst (pc := 133) (0 : Int32) d_X12_voyage_133 rfl ?_
          refine r_istore (pc := 134) (ls' := [(7, .int (0 : Int32)), (6, .int (0 : Int32)), (0, .ref 102), (1, .int v1), (3, .int v3), (4, .int v4), (5, .int v5)]) d_X12_voyage_134 (Nat.le_of_ble_eq_true rfl) rfl ?_
          refine r_pick [2, 3, 4, 6, 1, 0] (ls' := [(0, .ref 102), (1, .int v1), (3, .int v3), (5, .int v5), (6, .int (0 : Int32)), (7, .int (0 : Int32))]) rfl ?_
          exact s_X12_voyage_136 hst h0 hd (fn_X12_voyage_98 v1 k53 n) hk98 zFU  v3 v5 (0 : Int32) (0 : Int32) D
        · refine r_iconst (pc := 126) (1 : Int32) d_X12_voyage_126 rfl ?_
          refine r_goto (pc := 127) 131 d_X12_voyage_127 (by decide) ?_
          refine r_istore (pc := 131) (ls' := [(6, .int (1 : Int32)), (0, .ref 102), (1, .int v1), (3, .int v3), (4, .int v4), (5, .int v5)]) d_X12_voyage_131 (Nat.le_of_ble_eq_true rfl) rfl ?_
          refine r_iconst (pc := 133) (0 : Int32) d_X12_voyage_133 rfl ?_
          refine r_istore (pc := 134) (ls' := [(7, .int (0 : Int32)), (6, .int (1 : Int32)), (0, .ref 102), (1, .int v1), (3, .int v3), (4, .int v4), (5, .int v5)]) d_X12_voyage_134 (Nat.le_of_ble_eq_true rfl) rfl ?_
          refine r_pick [2, 3, 4, 6, 1, 0] (ls' := [(0, .ref 102), (1, .int v1), (3, .int v3), (5, .int v5), (6, .int (1 : Int32)), (7, .int (0 : Int32))]) rfl ?_
          exact s_X12_voyage_136 hst h0 hd (fn_X12_voyage_98 v1 k53 n) hk98 zFU  v3 v5 (1 : Int32) (0 : Int32) D
theorem s_X12_voyage_62 {X : zX} {Sh : zSh} {d : Nat} (hst : (zl X).stackTraces = false) (h0 : zSh0 Sh) (hd : 4 ≤ d) {v1 : Int32} (k53 : Int32 → zD → Option (Int32 × zD)) (hk53 : ∀ (v3 : Int32) (D : zD) , Rn X m_X12_voyage (d + 1) 53 [(0, .ref 102), (1, .int v1), (3, .int v3)] [] (Sh, D) ((oI Sh) (k53 v3 D))) : ∀ (n : Nat) (v3 : Int32) (v4 : Int32) (D : zD) , Rn X m_X12_voyage (d + 1) 62 [(0, .ref 102), (1, .int v1), (3, .int v3), (4, .int v4)] [] (Sh, D) ((oI Sh) (fn_X12_voyage_62 v1 k53 n v3 v4 D)) := by
  intro n
  induction n with
  | zero => intro v3 v4 D; exact Rn_none rfl
  | succ n hk62 =>
    intro v3 v4 D
    rw [fn_X12_voyage_62]
    refine r_iload (pc := 62) 3 d_X12_voyage_62 rfl ?_
    refine r_aload_n (pc := 64) 0 d_X12_voyage_64 rfl rfl ?_
    refine q_gI (pc := 65) g_X12_236 (K_102 h0) rfl d_X12_voyage_65 ?_
    refine r_icmp_ge (f := (oI Sh)) (pc := 68) 92 d_X12_voyage_68 (by decide) (fun c6 => ?_) (fun c6 => ?_)
    · refine r_iconst (pc := 92) (1 : Int32) d_X12_voyage_92 rfl ?_
      refine r_istore (pc := 93) (ls' := [(4, .int (1 : Int32)), (0, .ref 102), (1, .int v1), (3, .int v3)]) d_X12_voyage_93 (Nat.le_of_ble_eq_true rfl) rfl ?_
      refine r_iconst (pc := 95) (0 : Int32) d_X12_voyage_95 rfl ?_
      refine r_istore (pc := 96) (ls' := [(5, .int (0 : Int32)), (4, .int (1 : Int32)), (0, .ref 102), (1, .int v1), (3, .int v3)]) d_X12_voyage_96 (Nat.le_of_ble_eq_true rfl) rfl ?_
      refine r_pick [2, 3, 4, 1, 0] (ls' := [(0, .ref 102), (1, .int v1), (3, .int v3), (4, .int (1 : Int32)), (5, .int (0 : Int32))]) rfl ?_
      exact s_X12_voyage_98 hst h0 hd k53 hk53 zFU  v3 (1 : Int32) (0 : Int32) D
    · refine r_aload_n (pc := 71) 0 d_X12_voyage_71 rfl rfl ?_
      refine r_getR (pc := 72) g_X12_110 (K_102 h0) rfl (R_102_56 h0) d_X12_voyage_72 ?_
      refine r_iload (pc := 75) 3 d_X12_voyage_75 rfl ?_
      refine r_aload_n (pc := 77) 0 d_X12_voyage_77 rfl rfl ?_
      refine r_iload (pc := 78) 3 d_X12_voyage_78 rfl ?_
      refine r_iload_n (pc := 80) 2 d_X12_voyage_80 rfl rfl ?_
      refine r_iload_n (pc := 81) 1 d_X12_voyage_81 rfl rfl ?_
      refine q_cI (f := (oI Sh)) (av := [.ref 102, .int v4, .int v3, .int v1]) (st := [.int v4, .ref 205]) (z_runV ck_X12_guessNow rfl ml_X12_398 ci_X12_guessNow cv_X12_guessNow (K_102 h0) (ci := 12) rfl rfl (Nat.le_of_ble_eq_true rfl) d_X12_voyage_82) (s_X12_guessNow hst h0 (by omega)) kp_I (fun q21 _ => ?_)
      refine r_ck (f := (oI Sh)) rfl (fun hc22 => ?_)
      refine q_iast (pc := 85) (j := v4.toNatClampNeg) (K_205 h0) hc22 rfl  d_X12_voyage_85 ?_
      refine r_letD (f := (oI Sh)) (fun D23 => ?_)
      refine r_iinc (pc := 86) ((v4 + (1 : Int32))) 3 (ls' := [(4, .int (v4 + (1 : Int32))), (0, .ref 102), (1, .int v1), (3, .int v3)]) d_X12_voyage_86 rfl rfl (Nat.le_of_ble_eq_true rfl) rfl ?_
      refine r_goto (pc := 89) 62 d_X12_voyage_89 (by decide) ?_
      refine r_pick [1, 2, 3, 0] (ls' := [(0, .ref 102), (1, .int v1), (3, .int v3), (4, .int (v4 + (1 : Int32)))]) rfl ?_
      exact hk62 v3 (v4 + (1 : Int32)) D23 
theorem s_X12_voyage_53 {X : zX} {Sh : zSh} {d : Nat} (hst : (zl X).stackTraces = false) (h0 : zSh0 Sh) (hd : 4 ≤ d) {v1 : Int32} : ∀ (n : Nat) (v3 : Int32) (D : zD) , Rn X m_X12_voyage (d + 1) 53 [(0, .ref 102), (1, .int v1), (3, .int v3)] [] (Sh, D) ((oI Sh) (fn_X12_voyage_53 v1 n v3 D)) := by
  intro n
  induction n with
  | zero => intro v3 D; exact Rn_none rfl
  | succ n hk53 =>
    intro v3 D
    rw [fn_X12_voyage_53]
    refine r_iload_n (pc := 53) 2 d_X12_voyage_53 rfl rfl ?_
    refine r_bipush (pc := 54) (100 : Int32) d_X12_voyage_54 rfl ?_
    refine r_icmp_ge (f := (oI Sh)) (pc := 56) 227 d_X12_voyage_56 (by decide) (fun c5 => ?_) (fun c5 => ?_)
    · refine r_iconst (pc := 227) (-1 : Int32) d_X12_voyage_227 rfl ?_
      exact r_iret (pc := 228) rfl d_X12_voyage_228
    · refine r_iconst (pc := 59) (0 : Int32) d_X12_voyage_59 rfl ?_
      refine r_istore (pc := 60) (ls' := [(4, .int (0 : Int32)), (0, .ref 102), (1, .int v1), (3, .int v3)]) d_X12_voyage_60 (Nat.le_of_ble_eq_true rfl) rfl ?_
      refine r_pick [1, 2, 3, 0] (ls' := [(0, .ref 102), (1, .int v1), (3, .int v3), (4, .int (0 : Int32))]) rfl ?_
      exact s_X12_voyage_62 hst h0 hd (fn_X12_voyage_53 v1 n) hk53 zFU  v3 (0 : Int32) D
theorem s_X12_voyage_41 {X : zX} {Sh : zSh} {d : Nat} (hst : (zl X).stackTraces = false) (h0 : zSh0 Sh) (hd : 4 ≤ d) {v1 : Int32} (v2 : Int32) (D : zD)  : Rn X m_X12_voyage (d + 1) 41 [(0, .ref 102), (1, .int v1), (2, .int v2)] [] (Sh, D) ((oI Sh) (fn_X12_voyage_41 v1 v2 D)) := by
  rw [fn_X12_voyage_41]
  refine r_iload_n (pc := 41) 2 d_X12_voyage_41 rfl rfl ?_
  refine r_if_ne (f := (oI Sh)) (pc := 42) 47 d_X12_voyage_42 (by decide) (fun c3 => ?_) (fun c3 => ?_)
  · refine r_aload_n (pc := 47) 0 d_X12_voyage_47 rfl rfl ?_
    refine q_cV (f := (oI Sh)) (av := [.ref 102]) (st := []) (z_runV ck_X12_layNone rfl ml_X12_395 ci_X12_layNone cv_X12_layNone (K_102 h0) (ci := 12) rfl rfl (Nat.le_of_ble_eq_true rfl) d_X12_voyage_48) (s_X12_layNone hst h0 (by omega)) kp_I (fun D4 _ => ?_)
    refine r_iconst (pc := 51) (0 : Int32) d_X12_voyage_51 rfl ?_
    refine r_istore_n (pc := 52) (ls' := [(3, .int (0 : Int32)), (0, .ref 102), (1, .int v1), (2, .int v2)]) d_X12_voyage_52 rfl (Nat.le_of_ble_eq_true rfl) rfl ?_
    refine r_pick [1, 2, 0] (ls' := [(0, .ref 102), (1, .int v1), (3, .int (0 : Int32))]) rfl ?_
    exact s_X12_voyage_53 hst h0 hd zFU  (0 : Int32) D4
  · refine r_iconst (pc := 45) (-1 : Int32) d_X12_voyage_45 rfl ?_
    exact r_iret (pc := 46) rfl d_X12_voyage_46
theorem s_X12_voyage_9 {X : zX} {Sh : zSh} {d : Nat} (hst : (zl X).stackTraces = false) (h0 : zSh0 Sh) (hd : 4 ≤ d) {v1 : Int32} : ∀ (n : Nat) (v2 : Int32) (v3 : Int32) (D : zD) , Rn X m_X12_voyage (d + 1) 9 [(0, .ref 102), (1, .int v1), (2, .int v2), (3, .int v3)] [] (Sh, D) ((oI Sh) (fn_X12_voyage_9 v1 n v2 v3 D)) := by
  intro n
  induction n with
  | zero => intro v2 v3 D; exact Rn_none rfl
  | succ n hk9 =>
    intro v2 v3 D
    rw [fn_X12_voyage_9]
    refine r_iload_n (pc := 9) 3 d_X12_voyage_9 rfl rfl ?_
    refine r_aload_n (pc := 10) 0 d_X12_voyage_10 rfl rfl ?_
    refine q_gI (pc := 11) g_X12_227 (K_102 h0) rfl d_X12_voyage_11 ?_
    refine r_icmp_ge (f := (oI Sh)) (pc := 14) 41 d_X12_voyage_14 (by decide) (fun c2 => ?_) (fun c2 => ?_)
    · refine r_pick [0, 1, 2] (ls' := [(0, .ref 102), (1, .int v1), (2, .int v2)]) rfl ?_
      exact s_X12_voyage_41 hst h0 hd v2 D
    · refine r_iload_n (pc := 17) 2 d_X12_voyage_17 rfl rfl ?_
      refine r_if_ne (f := (oI Sh)) (pc := 18) 29 d_X12_voyage_18 (by decide) (fun c24 => ?_) (fun c24 => ?_)
      · refine r_iconst (pc := 29) (1 : Int32) d_X12_voyage_29 rfl ?_
        refine r_goto (pc := 30) 34 d_X12_voyage_30 (by decide) ?_
        refine r_istore_n (pc := 34) (ls' := [(2, .int (1 : Int32)), (0, .ref 102), (1, .int v1), (3, .int v3)]) d_X12_voyage_34 rfl (Nat.le_of_ble_eq_true rfl) rfl ?_
        refine r_iinc (pc := 35) ((v3 + (1 : Int32))) 3 (ls' := [(3, .int (v3 + (1 : Int32))), (2, .int (1 : Int32)), (0, .ref 102), (1, .int v1)]) d_X12_voyage_35 rfl rfl (Nat.le_of_ble_eq_true rfl) rfl ?_
        refine r_goto (pc := 38) 9 d_X12_voyage_38 (by decide) ?_
        refine r_pick [2, 3, 1, 0] (ls' := [(0, .ref 102), (1, .int v1), (2, .int (1 : Int32)), (3, .int (v3 + (1 : Int32)))]) rfl ?_
        exact hk9 (1 : Int32) (v3 + (1 : Int32)) D 
      · refine r_aload_n (pc := 21) 0 d_X12_voyage_21 rfl rfl ?_
        refine r_iload_n (pc := 22) 3 d_X12_voyage_22 rfl rfl ?_
        refine q_cP (f := (oI Sh)) (av := [.ref 102, .int v3]) (st := []) (z_runV ck_X12_isTold rfl ml_X12_401 ci_X12_isTold cv_X12_isTold (K_102 h0) (ci := 12) rfl rfl (Nat.le_of_ble_eq_true rfl) d_X12_voyage_23) (s_X12_isTold hst h0 (by omega)) kp_I (fun x25 _ => ?_)
        refine r_if_eq (f := (oI Sh)) (pc := 26) 33 d_X12_voyage_26 (by decide) (fun c26 => ?_) (fun c26 => ?_)
        · refine r_iconst (pc := 33) (0 : Int32) d_X12_voyage_33 rfl ?_
          refine r_istore_n (pc := 34) (ls' := [(2, .int (0 : Int32)), (0, .ref 102), (1, .int v1), (3, .int v3)]) d_X12_voyage_34 rfl (Nat.le_of_ble_eq_true rfl) rfl ?_
          refine r_iinc (pc := 35) ((v3 + (1 : Int32))) 3 (ls' := [(3, .int (v3 + (1 : Int32))), (2, .int (0 : Int32)), (0, .ref 102), (1, .int v1)]) d_X12_voyage_35 rfl rfl (Nat.le_of_ble_eq_true rfl) rfl ?_
          refine r_goto (pc := 38) 9 d_X12_voyage_38 (by decide) ?_
          refine r_pick [2, 3, 1, 0] (ls' := [(0, .ref 102), (1, .int v1), (2, .int (0 : Int32)), (3, .int (v3 + (1 : Int32)))]) rfl ?_
          exact hk9 (0 : Int32) (v3 + (1 : Int32)) D 
        · refine r_iconst (pc := 29) (1 : Int32) d_X12_voyage_29 rfl ?_
          refine r_goto (pc := 30) 34 d_X12_voyage_30 (by decide) ?_
          refine r_istore_n (pc := 34) (ls' := [(2, .int (1 : Int32)), (0, .ref 102), (1, .int v1), (3, .int v3)]) d_X12_voyage_34 rfl (Nat.le_of_ble_eq_true rfl) rfl ?_
          refine r_iinc (pc := 35) ((v3 + (1 : Int32))) 3 (ls' := [(3, .int (v3 + (1 : Int32))), (2, .int (1 : Int32)), (0, .ref 102), (1, .int v1)]) d_X12_voyage_35 rfl rfl (Nat.le_of_ble_eq_true rfl) rfl ?_
          refine r_goto (pc := 38) 9 d_X12_voyage_38 (by decide) ?_
          refine r_pick [2, 3, 1, 0] (ls' := [(0, .ref 102), (1, .int v1), (2, .int (1 : Int32)), (3, .int (v3 + (1 : Int32)))]) rfl ?_
          exact hk9 (1 : Int32) (v3 + (1 : Int32)) D 
theorem s_X12_voyage {X : zX} {Sh : zSh} {d : Nat} (hst : (zl X).stackTraces = false) (h0 : zSh0 Sh) (hd : 5 ≤ d) {v1 : Int32} {D : zD} : Sd X m_X12_voyage d [.ref 102, .int v1] (Sh, D) ((oI Sh) (fn_X12_voyage v1 D)) := by
  obtain ⟨d, rfl⟩ : ∃ e, d = e + 1 := ⟨d - 1, by omega⟩
  replace hd : 4 ≤ d := by omega
  refine z_body ck_X12_voyage rfl (Nat.le_of_ble_eq_true rfl) rfl hst ?_
  rw [fn_X12_voyage]
  show Rn X m_X12_voyage (d + 1) 0 [(0, .ref 102), (1, .int v1)] [] (Sh, D) _
  refine r_aload_n (pc := 0) 0 d_X12_voyage_0 rfl rfl ?_
  refine r_iconst (pc := 1) (0 : Int32) d_X12_voyage_1 rfl ?_
  refine r_putI (pc := 2) p_X12_113 (K_102 h0) rfl (Or.inl rfl) d_X12_voyage_2 ?_
  refine r_letD (f := (oI Sh)) (fun D1 => ?_)
  refine r_iconst (pc := 5) (0 : Int32) d_X12_voyage_5 rfl ?_
  refine r_istore_n (pc := 6) (ls' := [(2, .int (0 : Int32)), (0, .ref 102), (1, .int v1)]) d_X12_voyage_6 rfl (Nat.le_of_ble_eq_true rfl) rfl ?_
  refine r_iconst (pc := 7) (0 : Int32) d_X12_voyage_7 rfl ?_
  refine r_istore_n (pc := 8) (ls' := [(3, .int (0 : Int32)), (2, .int (0 : Int32)), (0, .ref 102), (1, .int v1)]) d_X12_voyage_8 rfl (Nat.le_of_ble_eq_true rfl) rfl ?_
  refine r_pick [2, 3, 1, 0] (ls' := [(0, .ref 102), (1, .int v1), (2, .int (0 : Int32)), (3, .int (0 : Int32))]) rfl ?_
  exact s_X12_voyage_9 hst h0 hd zFU  (0 : Int32) (0 : Int32) D1
/-! CoveredSignsModel.moves -/
theorem d_X12_moves_0 : decode (yB m_X12_moves) 0 = .ok (.iload_n 3, 1) := by decide +kernel
theorem d_X12_moves_1 : decode (yB m_X12_moves) 1 = .ok (.ifCond .ne 10, 3) := by decide +kernel
theorem d_X12_moves_4 : decode (yB m_X12_moves) 4 = .ok (.aload_n 1, 1) := by decide +kernel
theorem d_X12_moves_5 : decode (yB m_X12_moves) 5 = .ok (.aload_n 0, 1) := by decide +kernel
theorem d_X12_moves_6 : decode (yB m_X12_moves) 6 = .ok (.getfield 404, 3) := by decide +kernel
theorem d_X12_moves_9 : decode (yB m_X12_moves) 9 = .ok (.iload_n 2, 1) := by decide +kernel
theorem d_X12_moves_10 : decode (yB m_X12_moves) 10 = .ok (.iastore, 1) := by decide +kernel
theorem d_X12_moves_11 : decode (yB m_X12_moves) 11 = .ok (.aload_n 0, 1) := by decide +kernel
theorem d_X12_moves_12 : decode (yB m_X12_moves) 12 = .ok (.dup, 1) := by decide +kernel
theorem d_X12_moves_13 : decode (yB m_X12_moves) 13 = .ok (.getfield 404, 3) := by decide +kernel
theorem d_X12_moves_16 : decode (yB m_X12_moves) 16 = .ok (.iconst 1, 1) := by decide +kernel
theorem d_X12_moves_17 : decode (yB m_X12_moves) 17 = .ok (.iadd, 1) := by decide +kernel
theorem d_X12_moves_18 : decode (yB m_X12_moves) 18 = .ok (.putfield 404, 3) := by decide +kernel
theorem d_X12_moves_21 : decode (yB m_X12_moves) 21 = .ok (.aload_n 1, 1) := by decide +kernel
theorem d_X12_moves_22 : decode (yB m_X12_moves) 22 = .ok (.aload_n 0, 1) := by decide +kernel
theorem d_X12_moves_23 : decode (yB m_X12_moves) 23 = .ok (.getfield 404, 3) := by decide +kernel
theorem d_X12_moves_26 : decode (yB m_X12_moves) 26 = .ok (.iconst 1, 1) := by decide +kernel
theorem d_X12_moves_27 : decode (yB m_X12_moves) 27 = .ok (.isub, 1) := by decide +kernel
theorem d_X12_moves_28 : decode (yB m_X12_moves) 28 = .ok (.iaload, 1) := by decide +kernel
theorem d_X12_moves_29 : decode (yB m_X12_moves) 29 = .ok (.ireturn, 1) := by decide +kernel
def fn_X12_moves_11 (a1 n1 : Nat) (v2 : Int32) (v3 : Int32) (D : zD) : Option (Int32 × zD) := zlet (sI D 102 38 ((gI D 102 38) + (1 : Int32))) fun D2 => zck ((gI D2 102 38) - (1 : Int32)) n1 <| (some ((gI D2 a1 ((gI D2 102 38) - (1 : Int32)).toNatClampNeg), D2))
def fn_X12_moves (a1 n1 : Nat) (v2 : Int32) (v3 : Int32) (D : zD) : Option (Int32 × zD) := (if v3 = 0 then (zck (gI D 102 38) n1 <| zlet (sI D a1 (gI D 102 38).toNatClampNeg v2) fun D5 => (fn_X12_moves_11 a1 n1 v2 v3 D5)) else ((fn_X12_moves_11 a1 n1 v2 v3 D)))
theorem s_X12_moves_11 {X : zX} {Sh : zSh} {d : Nat} (hst : (zl X).stackTraces = false) (h0 : zSh0 Sh) (hd : 0 ≤ d) {a1 n1 : Nat} {v2 : Int32} {v3 : Int32} (h_a1 : Sh.1[a1]? = some (0, n1)) (hn1 : n1 < 2147483648)  (D : zD)  : Rn X m_X12_moves (d + 1) 11 [(0, .ref 102), (1, .ref a1)] [] (Sh, D) ((oI Sh) (fn_X12_moves_11 a1 n1 v2 v3 D)) := by
  rw [fn_X12_moves_11]
  refine r_aload_n (pc := 11) 0 d_X12_moves_11 rfl rfl ?_
  refine r_dup (pc := 12) d_X12_moves_12 rfl ?_
  refine q_gI (pc := 13) g_X12_404 (K_102 h0) rfl d_X12_moves_13 ?_
  refine r_iconst (pc := 16) (1 : Int32) d_X12_moves_16 rfl ?_
  refine r_iadd (pc := 17) d_X12_moves_17 ?_
  refine r_putI (pc := 18) p_X12_404 (K_102 h0) rfl (Or.inl rfl) d_X12_moves_18 ?_
  refine r_letD (f := (oI Sh)) (fun D2 => ?_)
  refine r_aload_n (pc := 21) 1 d_X12_moves_21 rfl rfl ?_
  refine r_aload_n (pc := 22) 0 d_X12_moves_22 rfl rfl ?_
  refine q_gI (pc := 23) g_X12_404 (K_102 h0) rfl d_X12_moves_23 ?_
  refine r_iconst (pc := 26) (1 : Int32) d_X12_moves_26 rfl ?_
  refine r_isub (pc := 27) d_X12_moves_27 ?_
  refine r_ck (f := (oI Sh)) rfl (fun hc3 => ?_)
  refine q_iald (pc := 28) (j := ((gI D2 102 38) - (1 : Int32)).toNatClampNeg) h_a1 hc3 rfl d_X12_moves_28 ?_
  exact r_iret (pc := 29) rfl d_X12_moves_29
theorem s_X12_moves {X : zX} {Sh : zSh} {d : Nat} (hst : (zl X).stackTraces = false) (h0 : zSh0 Sh) (hd : 1 ≤ d) {a1 n1 : Nat} {v2 : Int32} {v3 : Int32} (h_a1 : Sh.1[a1]? = some (0, n1)) (hn1 : n1 < 2147483648) {D : zD} : Sd X m_X12_moves d [.ref 102, .ref a1, .int v2, .int v3] (Sh, D) ((oI Sh) (fn_X12_moves a1 n1 v2 v3 D)) := by
  obtain ⟨d, rfl⟩ : ∃ e, d = e + 1 := ⟨d - 1, by omega⟩
  replace hd : 0 ≤ d := by omega
  refine z_body ck_X12_moves rfl (Nat.le_of_ble_eq_true rfl) rfl hst ?_
  rw [fn_X12_moves]
  show Rn X m_X12_moves (d + 1) 0 [(0, .ref 102), (1, .ref a1), (2, .int v2), (3, .int v3)] [] (Sh, D) _
  refine r_iload_n (pc := 0) 3 d_X12_moves_0 rfl rfl ?_
  refine r_if_ne (f := (oI Sh)) (pc := 1) 11 d_X12_moves_1 (by decide) (fun c1 => ?_) (fun c1 => ?_)
  · refine r_pick [0, 1] (ls' := [(0, .ref 102), (1, .ref a1)]) rfl ?_
    exact s_X12_moves_11 hst h0 hd h_a1 hn1 D
  · refine r_aload_n (pc := 4) 1 d_X12_moves_4 rfl rfl ?_
    refine r_aload_n (pc := 5) 0 d_X12_moves_5 rfl rfl ?_
    refine q_gI (pc := 6) g_X12_404 (K_102 h0) rfl d_X12_moves_6 ?_
    refine r_iload_n (pc := 9) 2 d_X12_moves_9 rfl rfl ?_
    refine r_ck (f := (oI Sh)) rfl (fun hc4 => ?_)
    refine q_iast (pc := 10) (j := (gI D 102 38).toNatClampNeg) h_a1 hc4 rfl  d_X12_moves_10 ?_
    refine r_letD (f := (oI Sh)) (fun D5 => ?_)
    refine r_pick [0, 1] (ls' := [(0, .ref 102), (1, .ref a1)]) rfl ?_
    exact s_X12_moves_11 hst h0 hd h_a1 hn1 D5
/-! CoveredSignsModel.movesAll -/
theorem d_X12_movesAll_0 : decode (yB m_X12_movesAll) 0 = .ok (.aload_n 0, 1) := by decide +kernel
theorem d_X12_movesAll_1 : decode (yB m_X12_movesAll) 1 = .ok (.iconst 0, 1) := by decide +kernel
theorem d_X12_movesAll_2 : decode (yB m_X12_movesAll) 2 = .ok (.putfield 404, 3) := by decide +kernel
theorem d_X12_movesAll_5 : decode (yB m_X12_movesAll) 5 = .ok (.aload_n 0, 1) := by decide +kernel
theorem d_X12_movesAll_6 : decode (yB m_X12_movesAll) 6 = .ok (.aload_n 0, 1) := by decide +kernel
theorem d_X12_movesAll_7 : decode (yB m_X12_movesAll) 7 = .ok (.aload_n 1, 1) := by decide +kernel
theorem d_X12_movesAll_8 : decode (yB m_X12_movesAll) 8 = .ok (.aload_n 0, 1) := by decide +kernel
theorem d_X12_movesAll_9 : decode (yB m_X12_movesAll) 9 = .ok (.getfield 230, 3) := by decide +kernel
theorem d_X12_movesAll_12 : decode (yB m_X12_movesAll) 12 = .ok (.iload_n 2, 1) := by decide +kernel
theorem d_X12_movesAll_13 : decode (yB m_X12_movesAll) 13 = .ok (.invokevirtual 407, 3) := by decide +kernel
theorem d_X12_movesAll_16 : decode (yB m_X12_movesAll) 16 = .ok (.putfield 230, 3) := by decide +kernel
theorem d_X12_movesAll_19 : decode (yB m_X12_movesAll) 19 = .ok (.aload_n 0, 1) := by decide +kernel
theorem d_X12_movesAll_20 : decode (yB m_X12_movesAll) 20 = .ok (.aload_n 0, 1) := by decide +kernel
theorem d_X12_movesAll_21 : decode (yB m_X12_movesAll) 21 = .ok (.aload_n 1, 1) := by decide +kernel
theorem d_X12_movesAll_22 : decode (yB m_X12_movesAll) 22 = .ok (.aload_n 0, 1) := by decide +kernel
theorem d_X12_movesAll_23 : decode (yB m_X12_movesAll) 23 = .ok (.getfield 233, 3) := by decide +kernel
theorem d_X12_movesAll_26 : decode (yB m_X12_movesAll) 26 = .ok (.iload_n 2, 1) := by decide +kernel
theorem d_X12_movesAll_27 : decode (yB m_X12_movesAll) 27 = .ok (.invokevirtual 407, 3) := by decide +kernel
theorem d_X12_movesAll_30 : decode (yB m_X12_movesAll) 30 = .ok (.putfield 233, 3) := by decide +kernel
theorem d_X12_movesAll_33 : decode (yB m_X12_movesAll) 33 = .ok (.aload_n 0, 1) := by decide +kernel
theorem d_X12_movesAll_34 : decode (yB m_X12_movesAll) 34 = .ok (.aload_n 0, 1) := by decide +kernel
theorem d_X12_movesAll_35 : decode (yB m_X12_movesAll) 35 = .ok (.aload_n 1, 1) := by decide +kernel
theorem d_X12_movesAll_36 : decode (yB m_X12_movesAll) 36 = .ok (.aload_n 0, 1) := by decide +kernel
theorem d_X12_movesAll_37 : decode (yB m_X12_movesAll) 37 = .ok (.getfield 236, 3) := by decide +kernel
theorem d_X12_movesAll_40 : decode (yB m_X12_movesAll) 40 = .ok (.iload_n 2, 1) := by decide +kernel
theorem d_X12_movesAll_41 : decode (yB m_X12_movesAll) 41 = .ok (.invokevirtual 407, 3) := by decide +kernel
theorem d_X12_movesAll_44 : decode (yB m_X12_movesAll) 44 = .ok (.putfield 236, 3) := by decide +kernel
theorem d_X12_movesAll_47 : decode (yB m_X12_movesAll) 47 = .ok (.iconst 0, 1) := by decide +kernel
theorem d_X12_movesAll_48 : decode (yB m_X12_movesAll) 48 = .ok (.istore_n 3, 1) := by decide +kernel
theorem d_X12_movesAll_49 : decode (yB m_X12_movesAll) 49 = .ok (.iload_n 3, 1) := by decide +kernel
theorem d_X12_movesAll_50 : decode (yB m_X12_movesAll) 50 = .ok (.bipush 6, 2) := by decide +kernel
theorem d_X12_movesAll_52 : decode (yB m_X12_movesAll) 52 = .ok (.if_icmp .ge 48, 3) := by decide +kernel
theorem d_X12_movesAll_55 : decode (yB m_X12_movesAll) 55 = .ok (.iconst 0, 1) := by decide +kernel
theorem d_X12_movesAll_56 : decode (yB m_X12_movesAll) 56 = .ok (.istore 4, 2) := by decide +kernel
theorem d_X12_movesAll_58 : decode (yB m_X12_movesAll) 58 = .ok (.iload 4, 2) := by decide +kernel
theorem d_X12_movesAll_60 : decode (yB m_X12_movesAll) 60 = .ok (.iconst 2, 1) := by decide +kernel
theorem d_X12_movesAll_61 : decode (yB m_X12_movesAll) 61 = .ok (.if_icmp .ge 33, 3) := by decide +kernel
theorem d_X12_movesAll_64 : decode (yB m_X12_movesAll) 64 = .ok (.aload_n 0, 1) := by decide +kernel
theorem d_X12_movesAll_65 : decode (yB m_X12_movesAll) 65 = .ok (.getfield 64, 3) := by decide +kernel
theorem d_X12_movesAll_68 : decode (yB m_X12_movesAll) 68 = .ok (.iload_n 3, 1) := by decide +kernel
theorem d_X12_movesAll_69 : decode (yB m_X12_movesAll) 69 = .ok (.aaload, 1) := by decide +kernel
theorem d_X12_movesAll_70 : decode (yB m_X12_movesAll) 70 = .ok (.iload 4, 2) := by decide +kernel
theorem d_X12_movesAll_72 : decode (yB m_X12_movesAll) 72 = .ok (.aload_n 0, 1) := by decide +kernel
theorem d_X12_movesAll_73 : decode (yB m_X12_movesAll) 73 = .ok (.aload_n 1, 1) := by decide +kernel
theorem d_X12_movesAll_74 : decode (yB m_X12_movesAll) 74 = .ok (.aload_n 0, 1) := by decide +kernel
theorem d_X12_movesAll_75 : decode (yB m_X12_movesAll) 75 = .ok (.getfield 64, 3) := by decide +kernel
theorem d_X12_movesAll_78 : decode (yB m_X12_movesAll) 78 = .ok (.iload_n 3, 1) := by decide +kernel
theorem d_X12_movesAll_79 : decode (yB m_X12_movesAll) 79 = .ok (.aaload, 1) := by decide +kernel
theorem d_X12_movesAll_80 : decode (yB m_X12_movesAll) 80 = .ok (.iload 4, 2) := by decide +kernel
theorem d_X12_movesAll_82 : decode (yB m_X12_movesAll) 82 = .ok (.iaload, 1) := by decide +kernel
theorem d_X12_movesAll_83 : decode (yB m_X12_movesAll) 83 = .ok (.iload_n 2, 1) := by decide +kernel
theorem d_X12_movesAll_84 : decode (yB m_X12_movesAll) 84 = .ok (.invokevirtual 407, 3) := by decide +kernel
theorem d_X12_movesAll_87 : decode (yB m_X12_movesAll) 87 = .ok (.iastore, 1) := by decide +kernel
theorem d_X12_movesAll_88 : decode (yB m_X12_movesAll) 88 = .ok (.iinc 4 1, 3) := by decide +kernel
theorem d_X12_movesAll_91 : decode (yB m_X12_movesAll) 91 = .ok (.goto (-33), 3) := by decide +kernel
theorem d_X12_movesAll_94 : decode (yB m_X12_movesAll) 94 = .ok (.iinc 3 1, 3) := by decide +kernel
theorem d_X12_movesAll_97 : decode (yB m_X12_movesAll) 97 = .ok (.goto (-48), 3) := by decide +kernel
theorem d_X12_movesAll_100 : decode (yB m_X12_movesAll) 100 = .ok (.iconst 0, 1) := by decide +kernel
theorem d_X12_movesAll_101 : decode (yB m_X12_movesAll) 101 = .ok (.istore_n 3, 1) := by decide +kernel
theorem d_X12_movesAll_102 : decode (yB m_X12_movesAll) 102 = .ok (.iload_n 3, 1) := by decide +kernel
theorem d_X12_movesAll_103 : decode (yB m_X12_movesAll) 103 = .ok (.bipush 8, 2) := by decide +kernel
theorem d_X12_movesAll_105 : decode (yB m_X12_movesAll) 105 = .ok (.if_icmp .ge 48, 3) := by decide +kernel
theorem d_X12_movesAll_108 : decode (yB m_X12_movesAll) 108 = .ok (.iconst 0, 1) := by decide +kernel
theorem d_X12_movesAll_109 : decode (yB m_X12_movesAll) 109 = .ok (.istore 4, 2) := by decide +kernel
theorem d_X12_movesAll_111 : decode (yB m_X12_movesAll) 111 = .ok (.iload 4, 2) := by decide +kernel
theorem d_X12_movesAll_113 : decode (yB m_X12_movesAll) 113 = .ok (.iconst 3, 1) := by decide +kernel
theorem d_X12_movesAll_114 : decode (yB m_X12_movesAll) 114 = .ok (.if_icmp .ge 33, 3) := by decide +kernel
theorem d_X12_movesAll_117 : decode (yB m_X12_movesAll) 117 = .ok (.aload_n 0, 1) := by decide +kernel
theorem d_X12_movesAll_118 : decode (yB m_X12_movesAll) 118 = .ok (.getfield 67, 3) := by decide +kernel
theorem d_X12_movesAll_121 : decode (yB m_X12_movesAll) 121 = .ok (.iload_n 3, 1) := by decide +kernel
theorem d_X12_movesAll_122 : decode (yB m_X12_movesAll) 122 = .ok (.aaload, 1) := by decide +kernel
theorem d_X12_movesAll_123 : decode (yB m_X12_movesAll) 123 = .ok (.iload 4, 2) := by decide +kernel
theorem d_X12_movesAll_125 : decode (yB m_X12_movesAll) 125 = .ok (.aload_n 0, 1) := by decide +kernel
theorem d_X12_movesAll_126 : decode (yB m_X12_movesAll) 126 = .ok (.aload_n 1, 1) := by decide +kernel
theorem d_X12_movesAll_127 : decode (yB m_X12_movesAll) 127 = .ok (.aload_n 0, 1) := by decide +kernel
theorem d_X12_movesAll_128 : decode (yB m_X12_movesAll) 128 = .ok (.getfield 67, 3) := by decide +kernel
theorem d_X12_movesAll_131 : decode (yB m_X12_movesAll) 131 = .ok (.iload_n 3, 1) := by decide +kernel
theorem d_X12_movesAll_132 : decode (yB m_X12_movesAll) 132 = .ok (.aaload, 1) := by decide +kernel
theorem d_X12_movesAll_133 : decode (yB m_X12_movesAll) 133 = .ok (.iload 4, 2) := by decide +kernel
theorem d_X12_movesAll_135 : decode (yB m_X12_movesAll) 135 = .ok (.iaload, 1) := by decide +kernel
theorem d_X12_movesAll_136 : decode (yB m_X12_movesAll) 136 = .ok (.iload_n 2, 1) := by decide +kernel
theorem d_X12_movesAll_137 : decode (yB m_X12_movesAll) 137 = .ok (.invokevirtual 407, 3) := by decide +kernel
theorem d_X12_movesAll_140 : decode (yB m_X12_movesAll) 140 = .ok (.iastore, 1) := by decide +kernel
theorem d_X12_movesAll_141 : decode (yB m_X12_movesAll) 141 = .ok (.iinc 4 1, 3) := by decide +kernel
theorem d_X12_movesAll_144 : decode (yB m_X12_movesAll) 144 = .ok (.goto (-33), 3) := by decide +kernel
theorem d_X12_movesAll_147 : decode (yB m_X12_movesAll) 147 = .ok (.iinc 3 1, 3) := by decide +kernel
theorem d_X12_movesAll_150 : decode (yB m_X12_movesAll) 150 = .ok (.goto (-48), 3) := by decide +kernel
theorem d_X12_movesAll_153 : decode (yB m_X12_movesAll) 153 = .ok (.return_, 1) := by decide +kernel
def fn_X12_movesAll_111 (a1 n1 : Nat) (v2 : Int32) (k102 : Int32 → zD → Option zD) : Nat → Int32 → Int32 → zD → Option zD
  | 0, _, _, _ => none
  | n + 1, v3, v4, D => (if (3 : Int32) ≤ v4 then ((k102 (v3 + (1 : Int32)) D)) else (zck v3 8 <| zck v3 8 <| zck v4 3 <| (fn_X12_moves a1 n1 (gI D (170 + v3.toNatClampNeg) v4.toNatClampNeg) v2 D).bind fun q14 => zck v4 3 <| zlet (sI q14.2 (170 + v3.toNatClampNeg) v4.toNatClampNeg q14.1) fun D16 => ((fn_X12_movesAll_111 a1 n1 v2 k102 n) v3 (v4 + (1 : Int32)) D16)))
def fn_X12_movesAll_102 (a1 n1 : Nat) (v2 : Int32) : Nat → Int32 → zD → Option zD
  | 0, _, _ => none
  | n + 1, v3, D => (if (8 : Int32) ≤ v3 then ((some D)) else ((fn_X12_movesAll_111 a1 n1 v2 (fn_X12_movesAll_102 a1 n1 v2 n) zFU v3 (0 : Int32) D)))
def fn_X12_movesAll_58 (a1 n1 : Nat) (v2 : Int32) (k49 : Int32 → zD → Option zD) : Nat → Int32 → Int32 → zD → Option zD
  | 0, _, _, _ => none
  | n + 1, v3, v4, D => (if (2 : Int32) ≤ v4 then ((k49 (v3 + (1 : Int32)) D)) else (zck v3 6 <| zck v3 6 <| zck v4 2 <| (fn_X12_moves a1 n1 (gI D (163 + v3.toNatClampNeg) v4.toNatClampNeg) v2 D).bind fun q21 => zck v4 2 <| zlet (sI q21.2 (163 + v3.toNatClampNeg) v4.toNatClampNeg q21.1) fun D23 => ((fn_X12_movesAll_58 a1 n1 v2 k49 n) v3 (v4 + (1 : Int32)) D23)))
def fn_X12_movesAll_49 (a1 n1 : Nat) (v2 : Int32) : Nat → Int32 → zD → Option zD
  | 0, _, _ => none
  | n + 1, v3, D => (if (6 : Int32) ≤ v3 then ((fn_X12_movesAll_102 a1 n1 v2 zFU (0 : Int32) D)) else ((fn_X12_movesAll_58 a1 n1 v2 (fn_X12_movesAll_49 a1 n1 v2 n) zFU v3 (0 : Int32) D)))
def fn_X12_movesAll (a1 n1 : Nat) (v2 : Int32) (D : zD) : Option zD := zlet (sI D 102 38 (0 : Int32)) fun D1 => (fn_X12_moves a1 n1 (gI D1 102 34) v2 D1).bind fun q2 => zlet (sI q2.2 102 34 q2.1) fun D3 => (fn_X12_moves a1 n1 (gI D3 102 35) v2 D3).bind fun q4 => zlet (sI q4.2 102 35 q4.1) fun D5 => (fn_X12_moves a1 n1 (gI D5 102 36) v2 D5).bind fun q6 => zlet (sI q6.2 102 36 q6.1) fun D7 => (fn_X12_movesAll_49 a1 n1 v2 zFU (0 : Int32) D7)
theorem s_X12_movesAll_111 {X : zX} {Sh : zSh} {d : Nat} (hst : (zl X).stackTraces = false) (h0 : zSh0 Sh) (hd : 1 ≤ d) {a1 n1 : Nat} {v2 : Int32} (h_a1 : Sh.1[a1]? = some (0, n1)) (hn1 : n1 < 2147483648) (k102 : Int32 → zD → Option zD) (hk102 : ∀ (v3 : Int32) (D : zD) , Rn X m_X12_movesAll (d + 1) 102 [(0, .ref 102), (1, .ref a1), (2, .int v2), (3, .int v3)] [] (Sh, D) ((oV Sh) (k102 v3 D))) : ∀ (n : Nat) (v3 : Int32) (v4 : Int32) (D : zD) , Rn X m_X12_movesAll (d + 1) 111 [(0, .ref 102), (1, .ref a1), (2, .int v2), (3, .int v3), (4, .int v4)] [] (Sh, D) ((oV Sh) (fn_X12_movesAll_111 a1 n1 v2 k102 n v3 v4 D)) := by
  intro n
  induction n with
  | zero => intro v3 v4 D; exact Rn_none rfl
  | succ n hk111 =>
    intro v3 v4 D
    rw [fn_X12_movesAll_111]
    refine r_iload (pc := 111) 4 d_X12_movesAll_111 rfl ?_
    refine r_iconst (pc := 113) (3 : Int32) d_X12_movesAll_113 rfl ?_
    refine r_icmp_ge (f := (oV Sh)) (pc := 114) 147 d_X12_movesAll_114 (by decide) (fun c10 => ?_) (fun c10 => ?_)
    · refine r_iinc (pc := 147) ((v3 + (1 : Int32))) 3 (ls' := [(3, .int (v3 + (1 : Int32))), (0, .ref 102), (1, .ref a1), (2, .int v2), (4, .int v4)]) d_X12_movesAll_147 rfl rfl (Nat.le_of_ble_eq_true rfl) rfl ?_
      refine r_goto (pc := 150) 102 d_X12_movesAll_150 (by decide) ?_
      refine r_pick [1, 2, 3, 0] (ls' := [(0, .ref 102), (1, .ref a1), (2, .int v2), (3, .int (v3 + (1 : Int32)))]) rfl ?_
      exact hk102 (v3 + (1 : Int32)) D 
    · refine r_aload_n (pc := 117) 0 d_X12_movesAll_117 rfl rfl ?_
      refine r_getR (pc := 118) g_X12_67 (K_102 h0) rfl (R_102_40 h0) d_X12_movesAll_118 ?_
      refine r_iload_n (pc := 121) 3 d_X12_movesAll_121 rfl rfl ?_
      refine r_ck (f := (oV Sh)) rfl (fun hc11 => ?_)
      refine q_aald (pc := 122) (j := v3.toNatClampNeg) (K_169 h0) (Or.inl ⟨rfl, rfl⟩) hc11 rfl (RW_169 h0 _ (z_lt hc11)) d_X12_movesAll_122 ?_
      refine r_iload (pc := 123) 4 d_X12_movesAll_123 rfl ?_
      refine r_aload_n (pc := 125) 0 d_X12_movesAll_125 rfl rfl ?_
      refine r_aload_n (pc := 126) 1 d_X12_movesAll_126 rfl rfl ?_
      refine r_aload_n (pc := 127) 0 d_X12_movesAll_127 rfl rfl ?_
      refine r_getR (pc := 128) g_X12_67 (K_102 h0) rfl (R_102_40 h0) d_X12_movesAll_128 ?_
      refine r_iload_n (pc := 131) 3 d_X12_movesAll_131 rfl rfl ?_
      refine r_ck (f := (oV Sh)) rfl (fun hc12 => ?_)
      refine q_aald (pc := 132) (j := v3.toNatClampNeg) (K_169 h0) (Or.inl ⟨rfl, rfl⟩) hc12 rfl (RW_169 h0 _ (z_lt hc12)) d_X12_movesAll_132 ?_
      refine r_iload (pc := 133) 4 d_X12_movesAll_133 rfl ?_
      refine r_ck (f := (oV Sh)) rfl (fun hc13 => ?_)
      refine q_iald (pc := 135) (j := v4.toNatClampNeg) (RK_169 h0 _ (z_lt hc12)) hc13 rfl d_X12_movesAll_135 ?_
      refine r_iload_n (pc := 136) 2 d_X12_movesAll_136 rfl rfl ?_
      refine q_cI (f := (oV Sh)) (av := [.ref 102, .ref a1, .int (gI D (170 + v3.toNatClampNeg) v4.toNatClampNeg), .int v2]) (st := [.int v4, .ref (170 + v3.toNatClampNeg)]) (z_runV ck_X12_moves rfl ml_X12_407 ci_X12_moves cv_X12_moves (K_102 h0) (ci := 12) rfl rfl (Nat.le_of_ble_eq_true rfl) d_X12_movesAll_137) (s_X12_moves hst h0 (by omega) h_a1 hn1) kp_V (fun q14 _ => ?_)
      refine r_ck (f := (oV Sh)) rfl (fun hc15 => ?_)
      refine q_iast (pc := 140) (j := v4.toNatClampNeg) (RK_169 h0 _ (z_lt hc11)) hc15 rfl  d_X12_movesAll_140 ?_
      refine r_letD (f := (oV Sh)) (fun D16 => ?_)
      refine r_iinc (pc := 141) ((v4 + (1 : Int32))) 4 (ls' := [(4, .int (v4 + (1 : Int32))), (0, .ref 102), (1, .ref a1), (2, .int v2), (3, .int v3)]) d_X12_movesAll_141 rfl rfl (Nat.le_of_ble_eq_true rfl) rfl ?_
      refine r_goto (pc := 144) 111 d_X12_movesAll_144 (by decide) ?_
      refine r_pick [1, 2, 3, 4, 0] (ls' := [(0, .ref 102), (1, .ref a1), (2, .int v2), (3, .int v3), (4, .int (v4 + (1 : Int32)))]) rfl ?_
      exact hk111 v3 (v4 + (1 : Int32)) D16 
theorem s_X12_movesAll_102 {X : zX} {Sh : zSh} {d : Nat} (hst : (zl X).stackTraces = false) (h0 : zSh0 Sh) (hd : 1 ≤ d) {a1 n1 : Nat} {v2 : Int32} (h_a1 : Sh.1[a1]? = some (0, n1)) (hn1 : n1 < 2147483648) : ∀ (n : Nat) (v3 : Int32) (D : zD) , Rn X m_X12_movesAll (d + 1) 102 [(0, .ref 102), (1, .ref a1), (2, .int v2), (3, .int v3)] [] (Sh, D) ((oV Sh) (fn_X12_movesAll_102 a1 n1 v2 n v3 D)) := by
  intro n
  induction n with
  | zero => intro v3 D; exact Rn_none rfl
  | succ n hk102 =>
    intro v3 D
    rw [fn_X12_movesAll_102]
    refine r_iload_n (pc := 102) 3 d_X12_movesAll_102 rfl rfl ?_
    refine r_bipush (pc := 103) (8 : Int32) d_X12_movesAll_103 rfl ?_
    refine r_icmp_ge (f := (oV Sh)) (pc := 105) 153 d_X12_movesAll_105 (by decide) (fun c9 => ?_) (fun c9 => ?_)
    · exact r_vret (pc := 153) rfl d_X12_movesAll_153
    · refine r_iconst (pc := 108) (0 : Int32) d_X12_movesAll_108 rfl ?_
      refine r_istore (pc := 109) (ls' := [(4, .int (0 : Int32)), (0, .ref 102), (1, .ref a1), (2, .int v2), (3, .int v3)]) d_X12_movesAll_109 (Nat.le_of_ble_eq_true rfl) rfl ?_
      refine r_pick [1, 2, 3, 4, 0] (ls' := [(0, .ref 102), (1, .ref a1), (2, .int v2), (3, .int v3), (4, .int (0 : Int32))]) rfl ?_
      exact s_X12_movesAll_111 hst h0 hd h_a1 hn1 (fn_X12_movesAll_102 a1 n1 v2 n) hk102 zFU  v3 (0 : Int32) D
theorem s_X12_movesAll_58 {X : zX} {Sh : zSh} {d : Nat} (hst : (zl X).stackTraces = false) (h0 : zSh0 Sh) (hd : 1 ≤ d) {a1 n1 : Nat} {v2 : Int32} (h_a1 : Sh.1[a1]? = some (0, n1)) (hn1 : n1 < 2147483648) (k49 : Int32 → zD → Option zD) (hk49 : ∀ (v3 : Int32) (D : zD) , Rn X m_X12_movesAll (d + 1) 49 [(0, .ref 102), (1, .ref a1), (2, .int v2), (3, .int v3)] [] (Sh, D) ((oV Sh) (k49 v3 D))) : ∀ (n : Nat) (v3 : Int32) (v4 : Int32) (D : zD) , Rn X m_X12_movesAll (d + 1) 58 [(0, .ref 102), (1, .ref a1), (2, .int v2), (3, .int v3), (4, .int v4)] [] (Sh, D) ((oV Sh) (fn_X12_movesAll_58 a1 n1 v2 k49 n v3 v4 D)) := by
  intro n
  induction n with
  | zero => intro v3 v4 D; exact Rn_none rfl
  | succ n hk58 =>
    intro v3 v4 D
    rw [fn_X12_movesAll_58]
    refine r_iload (pc := 58) 4 d_X12_movesAll_58 rfl ?_
    refine r_iconst (pc := 60) (2 : Int32) d_X12_movesAll_60 rfl ?_
    refine r_icmp_ge (f := (oV Sh)) (pc := 61) 94 d_X12_movesAll_61 (by decide) (fun c17 => ?_) (fun c17 => ?_)
    · refine r_iinc (pc := 94) ((v3 + (1 : Int32))) 3 (ls' := [(3, .int (v3 + (1 : Int32))), (0, .ref 102), (1, .ref a1), (2, .int v2), (4, .int v4)]) d_X12_movesAll_94 rfl rfl (Nat.le_of_ble_eq_true rfl) rfl ?_
      refine r_goto (pc := 97) 49 d_X12_movesAll_97 (by decide) ?_
      refine r_pick [1, 2, 3, 0] (ls' := [(0, .ref 102), (1, .ref a1), (2, .int v2), (3, .int (v3 + (1 : Int32)))]) rfl ?_
      exact hk49 (v3 + (1 : Int32)) D 
    · refine r_aload_n (pc := 64) 0 d_X12_movesAll_64 rfl rfl ?_
      refine r_getR (pc := 65) g_X12_64 (K_102 h0) rfl (R_102_39 h0) d_X12_movesAll_65 ?_
      refine r_iload_n (pc := 68) 3 d_X12_movesAll_68 rfl rfl ?_
      refine r_ck (f := (oV Sh)) rfl (fun hc18 => ?_)
      refine q_aald (pc := 69) (j := v3.toNatClampNeg) (K_162 h0) (Or.inl ⟨rfl, rfl⟩) hc18 rfl (RW_162 h0 _ (z_lt hc18)) d_X12_movesAll_69 ?_
      refine r_iload (pc := 70) 4 d_X12_movesAll_70 rfl ?_
      refine r_aload_n (pc := 72) 0 d_X12_movesAll_72 rfl rfl ?_
      refine r_aload_n (pc := 73) 1 d_X12_movesAll_73 rfl rfl ?_
      refine r_aload_n (pc := 74) 0 d_X12_movesAll_74 rfl rfl ?_
      refine r_getR (pc := 75) g_X12_64 (K_102 h0) rfl (R_102_39 h0) d_X12_movesAll_75 ?_
      refine r_iload_n (pc := 78) 3 d_X12_movesAll_78 rfl rfl ?_
      refine r_ck (f := (oV Sh)) rfl (fun hc19 => ?_)
      refine q_aald (pc := 79) (j := v3.toNatClampNeg) (K_162 h0) (Or.inl ⟨rfl, rfl⟩) hc19 rfl (RW_162 h0 _ (z_lt hc19)) d_X12_movesAll_79 ?_
      refine r_iload (pc := 80) 4 d_X12_movesAll_80 rfl ?_
      refine r_ck (f := (oV Sh)) rfl (fun hc20 => ?_)
      refine q_iald (pc := 82) (j := v4.toNatClampNeg) (RK_162 h0 _ (z_lt hc19)) hc20 rfl d_X12_movesAll_82 ?_
      refine r_iload_n (pc := 83) 2 d_X12_movesAll_83 rfl rfl ?_
      refine q_cI (f := (oV Sh)) (av := [.ref 102, .ref a1, .int (gI D (163 + v3.toNatClampNeg) v4.toNatClampNeg), .int v2]) (st := [.int v4, .ref (163 + v3.toNatClampNeg)]) (z_runV ck_X12_moves rfl ml_X12_407 ci_X12_moves cv_X12_moves (K_102 h0) (ci := 12) rfl rfl (Nat.le_of_ble_eq_true rfl) d_X12_movesAll_84) (s_X12_moves hst h0 (by omega) h_a1 hn1) kp_V (fun q21 _ => ?_)
      refine r_ck (f := (oV Sh)) rfl (fun hc22 => ?_)
      refine q_iast (pc := 87) (j := v4.toNatClampNeg) (RK_162 h0 _ (z_lt hc18)) hc22 rfl  d_X12_movesAll_87 ?_
      refine r_letD (f := (oV Sh)) (fun D23 => ?_)
      refine r_iinc (pc := 88) ((v4 + (1 : Int32))) 4 (ls' := [(4, .int (v4 + (1 : Int32))), (0, .ref 102), (1, .ref a1), (2, .int v2), (3, .int v3)]) d_X12_movesAll_88 rfl rfl (Nat.le_of_ble_eq_true rfl) rfl ?_
      refine r_goto (pc := 91) 58 d_X12_movesAll_91 (by decide) ?_
      refine r_pick [1, 2, 3, 4, 0] (ls' := [(0, .ref 102), (1, .ref a1), (2, .int v2), (3, .int v3), (4, .int (v4 + (1 : Int32)))]) rfl ?_
      exact hk58 v3 (v4 + (1 : Int32)) D23 
theorem s_X12_movesAll_49 {X : zX} {Sh : zSh} {d : Nat} (hst : (zl X).stackTraces = false) (h0 : zSh0 Sh) (hd : 1 ≤ d) {a1 n1 : Nat} {v2 : Int32} (h_a1 : Sh.1[a1]? = some (0, n1)) (hn1 : n1 < 2147483648) : ∀ (n : Nat) (v3 : Int32) (D : zD) , Rn X m_X12_movesAll (d + 1) 49 [(0, .ref 102), (1, .ref a1), (2, .int v2), (3, .int v3)] [] (Sh, D) ((oV Sh) (fn_X12_movesAll_49 a1 n1 v2 n v3 D)) := by
  intro n
  induction n with
  | zero => intro v3 D; exact Rn_none rfl
  | succ n hk49 =>
    intro v3 D
    rw [fn_X12_movesAll_49]
    refine r_iload_n (pc := 49) 3 d_X12_movesAll_49 rfl rfl ?_
    refine r_bipush (pc := 50) (6 : Int32) d_X12_movesAll_50 rfl ?_
    refine r_icmp_ge (f := (oV Sh)) (pc := 52) 100 d_X12_movesAll_52 (by decide) (fun c8 => ?_) (fun c8 => ?_)
    · refine r_iconst (pc := 100) (0 : Int32) d_X12_movesAll_100 rfl ?_
      refine r_istore_n (pc := 101) (ls' := [(3, .int (0 : Int32)), (0, .ref 102), (1, .ref a1), (2, .int v2)]) d_X12_movesAll_101 rfl (Nat.le_of_ble_eq_true rfl) rfl ?_
      refine r_pick [1, 2, 3, 0] (ls' := [(0, .ref 102), (1, .ref a1), (2, .int v2), (3, .int (0 : Int32))]) rfl ?_
      exact s_X12_movesAll_102 hst h0 hd h_a1 hn1 zFU  (0 : Int32) D
    · refine r_iconst (pc := 55) (0 : Int32) d_X12_movesAll_55 rfl ?_
      refine r_istore (pc := 56) (ls' := [(4, .int (0 : Int32)), (0, .ref 102), (1, .ref a1), (2, .int v2), (3, .int v3)]) d_X12_movesAll_56 (Nat.le_of_ble_eq_true rfl) rfl ?_
      refine r_pick [1, 2, 3, 4, 0] (ls' := [(0, .ref 102), (1, .ref a1), (2, .int v2), (3, .int v3), (4, .int (0 : Int32))]) rfl ?_
      exact s_X12_movesAll_58 hst h0 hd h_a1 hn1 (fn_X12_movesAll_49 a1 n1 v2 n) hk49 zFU  v3 (0 : Int32) D
theorem s_X12_movesAll {X : zX} {Sh : zSh} {d : Nat} (hst : (zl X).stackTraces = false) (h0 : zSh0 Sh) (hd : 2 ≤ d) {a1 n1 : Nat} {v2 : Int32} (h_a1 : Sh.1[a1]? = some (0, n1)) (hn1 : n1 < 2147483648) {D : zD} : Sd X m_X12_movesAll d [.ref 102, .ref a1, .int v2] (Sh, D) ((oV Sh) (fn_X12_movesAll a1 n1 v2 D)) := by
  obtain ⟨d, rfl⟩ : ∃ e, d = e + 1 := ⟨d - 1, by omega⟩
  replace hd : 1 ≤ d := by omega
  refine z_body ck_X12_movesAll rfl (Nat.le_of_ble_eq_true rfl) rfl hst ?_
  rw [fn_X12_movesAll]
  show Rn X m_X12_movesAll (d + 1) 0 [(0, .ref 102), (1, .ref a1), (2, .int v2)] [] (Sh, D) _
  refine r_aload_n (pc := 0) 0 d_X12_movesAll_0 rfl rfl ?_
  refine r_iconst (pc := 1) (0 : Int32) d_X12_movesAll_1 rfl ?_
  refine r_putI (pc := 2) p_X12_404 (K_102 h0) rfl (Or.inl rfl) d_X12_movesAll_2 ?_
  refine r_letD (f := (oV Sh)) (fun D1 => ?_)
  refine r_aload_n (pc := 5) 0 d_X12_movesAll_5 rfl rfl ?_
  refine r_aload_n (pc := 6) 0 d_X12_movesAll_6 rfl rfl ?_
  refine r_aload_n (pc := 7) 1 d_X12_movesAll_7 rfl rfl ?_
  refine r_aload_n (pc := 8) 0 d_X12_movesAll_8 rfl rfl ?_
  refine q_gI (pc := 9) g_X12_230 (K_102 h0) rfl d_X12_movesAll_9 ?_
  refine r_iload_n (pc := 12) 2 d_X12_movesAll_12 rfl rfl ?_
  refine q_cI (f := (oV Sh)) (av := [.ref 102, .ref a1, .int (gI D1 102 34), .int v2]) (st := [.ref 102]) (z_runV ck_X12_moves rfl ml_X12_407 ci_X12_moves cv_X12_moves (K_102 h0) (ci := 12) rfl rfl (Nat.le_of_ble_eq_true rfl) d_X12_movesAll_13) (s_X12_moves hst h0 (by omega) h_a1 hn1) kp_V (fun q2 _ => ?_)
  refine r_putI (pc := 16) p_X12_230 (K_102 h0) rfl (Or.inl rfl) d_X12_movesAll_16 ?_
  refine r_letD (f := (oV Sh)) (fun D3 => ?_)
  refine r_aload_n (pc := 19) 0 d_X12_movesAll_19 rfl rfl ?_
  refine r_aload_n (pc := 20) 0 d_X12_movesAll_20 rfl rfl ?_
  refine r_aload_n (pc := 21) 1 d_X12_movesAll_21 rfl rfl ?_
  refine r_aload_n (pc := 22) 0 d_X12_movesAll_22 rfl rfl ?_
  refine q_gI (pc := 23) g_X12_233 (K_102 h0) rfl d_X12_movesAll_23 ?_
  refine r_iload_n (pc := 26) 2 d_X12_movesAll_26 rfl rfl ?_
  refine q_cI (f := (oV Sh)) (av := [.ref 102, .ref a1, .int (gI D3 102 35), .int v2]) (st := [.ref 102]) (z_runV ck_X12_moves rfl ml_X12_407 ci_X12_moves cv_X12_moves (K_102 h0) (ci := 12) rfl rfl (Nat.le_of_ble_eq_true rfl) d_X12_movesAll_27) (s_X12_moves hst h0 (by omega) h_a1 hn1) kp_V (fun q4 _ => ?_)
  refine r_putI (pc := 30) p_X12_233 (K_102 h0) rfl (Or.inl rfl) d_X12_movesAll_30 ?_
  refine r_letD (f := (oV Sh)) (fun D5 => ?_)
  refine r_aload_n (pc := 33) 0 d_X12_movesAll_33 rfl rfl ?_
  refine r_aload_n (pc := 34) 0 d_X12_movesAll_34 rfl rfl ?_
  refine r_aload_n (pc := 35) 1 d_X12_movesAll_35 rfl rfl ?_
  refine r_aload_n (pc := 36) 0 d_X12_movesAll_36 rfl rfl ?_
  refine q_gI (pc := 37) g_X12_236 (K_102 h0) rfl d_X12_movesAll_37 ?_
  refine r_iload_n (pc := 40) 2 d_X12_movesAll_40 rfl rfl ?_
  refine q_cI (f := (oV Sh)) (av := [.ref 102, .ref a1, .int (gI D5 102 36), .int v2]) (st := [.ref 102]) (z_runV ck_X12_moves rfl ml_X12_407 ci_X12_moves cv_X12_moves (K_102 h0) (ci := 12) rfl rfl (Nat.le_of_ble_eq_true rfl) d_X12_movesAll_41) (s_X12_moves hst h0 (by omega) h_a1 hn1) kp_V (fun q6 _ => ?_)
  refine r_putI (pc := 44) p_X12_236 (K_102 h0) rfl (Or.inl rfl) d_X12_movesAll_44 ?_
  refine r_letD (f := (oV Sh)) (fun D7 => ?_)
  refine r_iconst (pc := 47) (0 : Int32) d_X12_movesAll_47 rfl ?_
  refine r_istore_n (pc := 48) (ls' := [(3, .int (0 : Int32)), (0, .ref 102), (1, .ref a1), (2, .int v2)]) d_X12_movesAll_48 rfl (Nat.le_of_ble_eq_true rfl) rfl ?_
  refine r_pick [1, 2, 3, 0] (ls' := [(0, .ref 102), (1, .ref a1), (2, .int v2), (3, .int (0 : Int32))]) rfl ?_
  exact s_X12_movesAll_49 hst h0 hd h_a1 hn1 zFU  (0 : Int32) D7
/-! CoveredSignsModel.image -/
theorem d_X12_image_0 : decode (yB m_X12_image) 0 = .ok (.aload_n 0, 1) := by decide +kernel
theorem d_X12_image_1 : decode (yB m_X12_image) 1 = .ok (.iconst 0, 1) := by decide +kernel
theorem d_X12_image_2 : decode (yB m_X12_image) 2 = .ok (.putfield 113, 3) := by decide +kernel
theorem d_X12_image_5 : decode (yB m_X12_image) 5 = .ok (.aload_n 0, 1) := by decide +kernel
theorem d_X12_image_6 : decode (yB m_X12_image) 6 = .ok (.getfield 239, 3) := by decide +kernel
theorem d_X12_image_9 : decode (yB m_X12_image) 9 = .ok (.iconst 3, 1) := by decide +kernel
theorem d_X12_image_10 : decode (yB m_X12_image) 10 = .ok (.if_icmp .ne 5, 3) := by decide +kernel
theorem d_X12_image_13 : decode (yB m_X12_image) 13 = .ok (.iconst (-1), 1) := by decide +kernel
theorem d_X12_image_14 : decode (yB m_X12_image) 14 = .ok (.ireturn, 1) := by decide +kernel
theorem d_X12_image_15 : decode (yB m_X12_image) 15 = .ok (.aload_n 0, 1) := by decide +kernel
theorem d_X12_image_16 : decode (yB m_X12_image) 16 = .ok (.aload_n 0, 1) := by decide +kernel
theorem d_X12_image_17 : decode (yB m_X12_image) 17 = .ok (.getfield 70, 3) := by decide +kernel
theorem d_X12_image_20 : decode (yB m_X12_image) 20 = .ok (.aload_n 0, 1) := by decide +kernel
theorem d_X12_image_21 : decode (yB m_X12_image) 21 = .ok (.getfield 239, 3) := by decide +kernel
theorem d_X12_image_24 : decode (yB m_X12_image) 24 = .ok (.aaload, 1) := by decide +kernel
theorem d_X12_image_25 : decode (yB m_X12_image) 25 = .ok (.iconst 0, 1) := by decide +kernel
theorem d_X12_image_26 : decode (yB m_X12_image) 26 = .ok (.invokevirtual 411, 3) := by decide +kernel
theorem d_X12_image_29 : decode (yB m_X12_image) 29 = .ok (.aload_n 0, 1) := by decide +kernel
theorem d_X12_image_30 : decode (yB m_X12_image) 30 = .ok (.dup, 1) := by decide +kernel
theorem d_X12_image_31 : decode (yB m_X12_image) 31 = .ok (.getfield 239, 3) := by decide +kernel
theorem d_X12_image_34 : decode (yB m_X12_image) 34 = .ok (.iconst 1, 1) := by decide +kernel
theorem d_X12_image_35 : decode (yB m_X12_image) 35 = .ok (.iadd, 1) := by decide +kernel
theorem d_X12_image_36 : decode (yB m_X12_image) 36 = .ok (.putfield 239, 3) := by decide +kernel
theorem d_X12_image_39 : decode (yB m_X12_image) 39 = .ok (.aload_n 0, 1) := by decide +kernel
theorem d_X12_image_40 : decode (yB m_X12_image) 40 = .ok (.getfield 239, 3) := by decide +kernel
theorem d_X12_image_43 : decode (yB m_X12_image) 43 = .ok (.ireturn, 1) := by decide +kernel
def fn_X12_image (D : zD) : Option (Int32 × zD) := zlet (sI D 102 0 (0 : Int32)) fun D1 => (if (gI D1 102 37) = (3 : Int32) then ((some ((-1 : Int32), D1))) else (zck (gI D1 102 37) 3 <| (fn_X12_movesAll (179 + (gI D1 102 37).toNatClampNeg) 64 (0 : Int32) D1).bind fun D4 => zlet (sI D4 102 37 ((gI D4 102 37) + (1 : Int32))) fun D5 => (some ((gI D5 102 37), D5))))
theorem s_X12_image {X : zX} {Sh : zSh} {d : Nat} (hst : (zl X).stackTraces = false) (h0 : zSh0 Sh) (hd : 3 ≤ d)  {D : zD} : Sd X m_X12_image d [.ref 102] (Sh, D) ((oI Sh) (fn_X12_image D)) := by
  obtain ⟨d, rfl⟩ : ∃ e, d = e + 1 := ⟨d - 1, by omega⟩
  replace hd : 2 ≤ d := by omega
  refine z_body ck_X12_image rfl (Nat.le_of_ble_eq_true rfl) rfl hst ?_
  rw [fn_X12_image]
  show Rn X m_X12_image (d + 1) 0 [(0, .ref 102)] [] (Sh, D) _
  refine r_aload_n (pc := 0) 0 d_X12_image_0 rfl rfl ?_
  refine r_iconst (pc := 1) (0 : Int32) d_X12_image_1 rfl ?_
  refine r_putI (pc := 2) p_X12_113 (K_102 h0) rfl (Or.inl rfl) d_X12_image_2 ?_
  refine r_letD (f := (oI Sh)) (fun D1 => ?_)
  refine r_aload_n (pc := 5) 0 d_X12_image_5 rfl rfl ?_
  refine q_gI (pc := 6) g_X12_239 (K_102 h0) rfl d_X12_image_6 ?_
  refine r_iconst (pc := 9) (3 : Int32) d_X12_image_9 rfl ?_
  refine r_icmp_ne (f := (oI Sh)) (pc := 10) 15 d_X12_image_10 (by decide) (fun c2 => ?_) (fun c2 => ?_)
  · refine r_aload_n (pc := 15) 0 d_X12_image_15 rfl rfl ?_
    refine r_aload_n (pc := 16) 0 d_X12_image_16 rfl rfl ?_
    refine r_getR (pc := 17) g_X12_70 (K_102 h0) rfl (R_102_41 h0) d_X12_image_17 ?_
    refine r_aload_n (pc := 20) 0 d_X12_image_20 rfl rfl ?_
    refine q_gI (pc := 21) g_X12_239 (K_102 h0) rfl d_X12_image_21 ?_
    refine r_ck (f := (oI Sh)) rfl (fun hc3 => ?_)
    refine q_aald (pc := 24) (j := (gI D1 102 37).toNatClampNeg) (K_178 h0) (Or.inl ⟨rfl, rfl⟩) hc3 rfl (RW_178 h0 _ (z_lt hc3)) d_X12_image_24 ?_
    refine r_iconst (pc := 25) (0 : Int32) d_X12_image_25 rfl ?_
    refine q_cV (f := (oI Sh)) (av := [.ref 102, .ref (179 + (gI D1 102 37).toNatClampNeg), .int (0 : Int32)]) (st := []) (z_runV ck_X12_movesAll rfl ml_X12_411 ci_X12_movesAll cv_X12_movesAll (K_102 h0) (ci := 12) rfl rfl (Nat.le_of_ble_eq_true rfl) d_X12_image_26) (s_X12_movesAll hst h0 (by omega) (RK_178 h0 _ (z_lt hc3)) (by decide)) kp_I (fun D4 _ => ?_)
    refine r_aload_n (pc := 29) 0 d_X12_image_29 rfl rfl ?_
    refine r_dup (pc := 30) d_X12_image_30 rfl ?_
    refine q_gI (pc := 31) g_X12_239 (K_102 h0) rfl d_X12_image_31 ?_
    refine r_iconst (pc := 34) (1 : Int32) d_X12_image_34 rfl ?_
    refine r_iadd (pc := 35) d_X12_image_35 ?_
    refine r_putI (pc := 36) p_X12_239 (K_102 h0) rfl (Or.inl rfl) d_X12_image_36 ?_
    refine r_letD (f := (oI Sh)) (fun D5 => ?_)
    refine r_aload_n (pc := 39) 0 d_X12_image_39 rfl rfl ?_
    refine q_gI (pc := 40) g_X12_239 (K_102 h0) rfl d_X12_image_40 ?_
    exact r_iret (pc := 43) rfl d_X12_image_43
  · refine r_iconst (pc := 13) (-1 : Int32) d_X12_image_13 rfl ?_
    exact r_iret (pc := 14) rfl d_X12_image_14
/-! CoveredSignsModel.restore -/
theorem d_X12_restore_0 : decode (yB m_X12_restore) 0 = .ok (.aload_n 0, 1) := by decide +kernel
theorem d_X12_restore_1 : decode (yB m_X12_restore) 1 = .ok (.iconst 0, 1) := by decide +kernel
theorem d_X12_restore_2 : decode (yB m_X12_restore) 2 = .ok (.putfield 113, 3) := by decide +kernel
theorem d_X12_restore_5 : decode (yB m_X12_restore) 5 = .ok (.aload_n 0, 1) := by decide +kernel
theorem d_X12_restore_6 : decode (yB m_X12_restore) 6 = .ok (.getfield 239, 3) := by decide +kernel
theorem d_X12_restore_9 : decode (yB m_X12_restore) 9 = .ok (.ifCond .ne 5, 3) := by decide +kernel
theorem d_X12_restore_12 : decode (yB m_X12_restore) 12 = .ok (.iconst (-1), 1) := by decide +kernel
theorem d_X12_restore_13 : decode (yB m_X12_restore) 13 = .ok (.ireturn, 1) := by decide +kernel
theorem d_X12_restore_14 : decode (yB m_X12_restore) 14 = .ok (.aload_n 0, 1) := by decide +kernel
theorem d_X12_restore_15 : decode (yB m_X12_restore) 15 = .ok (.dup, 1) := by decide +kernel
theorem d_X12_restore_16 : decode (yB m_X12_restore) 16 = .ok (.getfield 239, 3) := by decide +kernel
theorem d_X12_restore_19 : decode (yB m_X12_restore) 19 = .ok (.iconst 1, 1) := by decide +kernel
theorem d_X12_restore_20 : decode (yB m_X12_restore) 20 = .ok (.isub, 1) := by decide +kernel
theorem d_X12_restore_21 : decode (yB m_X12_restore) 21 = .ok (.putfield 239, 3) := by decide +kernel
theorem d_X12_restore_24 : decode (yB m_X12_restore) 24 = .ok (.aload_n 0, 1) := by decide +kernel
theorem d_X12_restore_25 : decode (yB m_X12_restore) 25 = .ok (.aload_n 0, 1) := by decide +kernel
theorem d_X12_restore_26 : decode (yB m_X12_restore) 26 = .ok (.getfield 70, 3) := by decide +kernel
theorem d_X12_restore_29 : decode (yB m_X12_restore) 29 = .ok (.aload_n 0, 1) := by decide +kernel
theorem d_X12_restore_30 : decode (yB m_X12_restore) 30 = .ok (.getfield 239, 3) := by decide +kernel
theorem d_X12_restore_33 : decode (yB m_X12_restore) 33 = .ok (.aaload, 1) := by decide +kernel
theorem d_X12_restore_34 : decode (yB m_X12_restore) 34 = .ok (.iconst 1, 1) := by decide +kernel
theorem d_X12_restore_35 : decode (yB m_X12_restore) 35 = .ok (.invokevirtual 411, 3) := by decide +kernel
theorem d_X12_restore_38 : decode (yB m_X12_restore) 38 = .ok (.aload_n 0, 1) := by decide +kernel
theorem d_X12_restore_39 : decode (yB m_X12_restore) 39 = .ok (.getfield 239, 3) := by decide +kernel
theorem d_X12_restore_42 : decode (yB m_X12_restore) 42 = .ok (.ireturn, 1) := by decide +kernel
def fn_X12_restore (D : zD) : Option (Int32 × zD) := zlet (sI D 102 0 (0 : Int32)) fun D1 => (if (gI D1 102 37) = 0 then ((some ((-1 : Int32), D1))) else (zlet (sI D1 102 37 ((gI D1 102 37) - (1 : Int32))) fun D3 => zck (gI D3 102 37) 3 <| (fn_X12_movesAll (179 + (gI D3 102 37).toNatClampNeg) 64 (1 : Int32) D3).bind fun D5 => (some ((gI D5 102 37), D5))))
theorem s_X12_restore {X : zX} {Sh : zSh} {d : Nat} (hst : (zl X).stackTraces = false) (h0 : zSh0 Sh) (hd : 3 ≤ d)  {D : zD} : Sd X m_X12_restore d [.ref 102] (Sh, D) ((oI Sh) (fn_X12_restore D)) := by
  obtain ⟨d, rfl⟩ : ∃ e, d = e + 1 := ⟨d - 1, by omega⟩
  replace hd : 2 ≤ d := by omega
  refine z_body ck_X12_restore rfl (Nat.le_of_ble_eq_true rfl) rfl hst ?_
  rw [fn_X12_restore]
  show Rn X m_X12_restore (d + 1) 0 [(0, .ref 102)] [] (Sh, D) _
  refine r_aload_n (pc := 0) 0 d_X12_restore_0 rfl rfl ?_
  refine r_iconst (pc := 1) (0 : Int32) d_X12_restore_1 rfl ?_
  refine r_putI (pc := 2) p_X12_113 (K_102 h0) rfl (Or.inl rfl) d_X12_restore_2 ?_
  refine r_letD (f := (oI Sh)) (fun D1 => ?_)
  refine r_aload_n (pc := 5) 0 d_X12_restore_5 rfl rfl ?_
  refine q_gI (pc := 6) g_X12_239 (K_102 h0) rfl d_X12_restore_6 ?_
  refine r_if_ne (f := (oI Sh)) (pc := 9) 14 d_X12_restore_9 (by decide) (fun c2 => ?_) (fun c2 => ?_)
  · refine r_aload_n (pc := 14) 0 d_X12_restore_14 rfl rfl ?_
    refine r_dup (pc := 15) d_X12_restore_15 rfl ?_
    refine q_gI (pc := 16) g_X12_239 (K_102 h0) rfl d_X12_restore_16 ?_
    refine r_iconst (pc := 19) (1 : Int32) d_X12_restore_19 rfl ?_
    refine r_isub (pc := 20) d_X12_restore_20 ?_
    refine r_putI (pc := 21) p_X12_239 (K_102 h0) rfl (Or.inl rfl) d_X12_restore_21 ?_
    refine r_letD (f := (oI Sh)) (fun D3 => ?_)
    refine r_aload_n (pc := 24) 0 d_X12_restore_24 rfl rfl ?_
    refine r_aload_n (pc := 25) 0 d_X12_restore_25 rfl rfl ?_
    refine r_getR (pc := 26) g_X12_70 (K_102 h0) rfl (R_102_41 h0) d_X12_restore_26 ?_
    refine r_aload_n (pc := 29) 0 d_X12_restore_29 rfl rfl ?_
    refine q_gI (pc := 30) g_X12_239 (K_102 h0) rfl d_X12_restore_30 ?_
    refine r_ck (f := (oI Sh)) rfl (fun hc4 => ?_)
    refine q_aald (pc := 33) (j := (gI D3 102 37).toNatClampNeg) (K_178 h0) (Or.inl ⟨rfl, rfl⟩) hc4 rfl (RW_178 h0 _ (z_lt hc4)) d_X12_restore_33 ?_
    refine r_iconst (pc := 34) (1 : Int32) d_X12_restore_34 rfl ?_
    refine q_cV (f := (oI Sh)) (av := [.ref 102, .ref (179 + (gI D3 102 37).toNatClampNeg), .int (1 : Int32)]) (st := []) (z_runV ck_X12_movesAll rfl ml_X12_411 ci_X12_movesAll cv_X12_movesAll (K_102 h0) (ci := 12) rfl rfl (Nat.le_of_ble_eq_true rfl) d_X12_restore_35) (s_X12_movesAll hst h0 (by omega) (RK_178 h0 _ (z_lt hc4)) (by decide)) kp_I (fun D5 _ => ?_)
    refine r_aload_n (pc := 38) 0 d_X12_restore_38 rfl rfl ?_
    refine q_gI (pc := 39) g_X12_239 (K_102 h0) rfl d_X12_restore_39 ?_
    exact r_iret (pc := 42) rfl d_X12_restore_42
  · refine r_iconst (pc := 12) (-1 : Int32) d_X12_restore_12 rfl ?_
    exact r_iret (pc := 13) rfl d_X12_restore_13
/-! CoveredSignsModel.count -/
theorem d_X12_count_0 : decode (yB m_X12_count) 0 = .ok (.aload_n 0, 1) := by decide +kernel
theorem d_X12_count_1 : decode (yB m_X12_count) 1 = .ok (.iconst 0, 1) := by decide +kernel
theorem d_X12_count_2 : decode (yB m_X12_count) 2 = .ok (.putfield 113, 3) := by decide +kernel
theorem d_X12_count_5 : decode (yB m_X12_count) 5 = .ok (.iload_n 1, 1) := by decide +kernel
theorem d_X12_count_6 : decode (yB m_X12_count) 6 = .ok (.tableswitch 50 0 3 #[30, 35, 40, 45], 30) := by decide +kernel
theorem d_X12_count_36 : decode (yB m_X12_count) 36 = .ok (.aload_n 0, 1) := by decide +kernel
theorem d_X12_count_37 : decode (yB m_X12_count) 37 = .ok (.getfield 233, 3) := by decide +kernel
theorem d_X12_count_40 : decode (yB m_X12_count) 40 = .ok (.ireturn, 1) := by decide +kernel
theorem d_X12_count_41 : decode (yB m_X12_count) 41 = .ok (.aload_n 0, 1) := by decide +kernel
theorem d_X12_count_42 : decode (yB m_X12_count) 42 = .ok (.getfield 236, 3) := by decide +kernel
theorem d_X12_count_45 : decode (yB m_X12_count) 45 = .ok (.ireturn, 1) := by decide +kernel
theorem d_X12_count_46 : decode (yB m_X12_count) 46 = .ok (.aload_n 0, 1) := by decide +kernel
theorem d_X12_count_47 : decode (yB m_X12_count) 47 = .ok (.getfield 239, 3) := by decide +kernel
theorem d_X12_count_50 : decode (yB m_X12_count) 50 = .ok (.ireturn, 1) := by decide +kernel
theorem d_X12_count_51 : decode (yB m_X12_count) 51 = .ok (.aload_n 0, 1) := by decide +kernel
theorem d_X12_count_52 : decode (yB m_X12_count) 52 = .ok (.getfield 116, 3) := by decide +kernel
theorem d_X12_count_55 : decode (yB m_X12_count) 55 = .ok (.ireturn, 1) := by decide +kernel
theorem d_X12_count_56 : decode (yB m_X12_count) 56 = .ok (.iconst (-1), 1) := by decide +kernel
theorem d_X12_count_57 : decode (yB m_X12_count) 57 = .ok (.ireturn, 1) := by decide +kernel
def fn_X12_count (v1 : Int32) (D : zD) : Option (Int32 × zD) := zlet (sI D 102 0 (0 : Int32)) fun D1 => (if v1 = 0 then ((some ((gI D1 102 35), D1))) else if v1 = 1 then ((some ((gI D1 102 36), D1))) else if v1 = 2 then ((some ((gI D1 102 37), D1))) else if v1 = 3 then ((some ((gI D1 102 1), D1))) else ((some ((-1 : Int32), D1))))
theorem s_X12_count {X : zX} {Sh : zSh} {d : Nat} (hst : (zl X).stackTraces = false) (h0 : zSh0 Sh) (hd : 1 ≤ d) {v1 : Int32} {D : zD} : Sd X m_X12_count d [.ref 102, .int v1] (Sh, D) ((oI Sh) (fn_X12_count v1 D)) := by
  obtain ⟨d, rfl⟩ : ∃ e, d = e + 1 := ⟨d - 1, by omega⟩
  replace hd : 0 ≤ d := by omega
  refine z_body ck_X12_count rfl (Nat.le_of_ble_eq_true rfl) rfl hst ?_
  rw [fn_X12_count]
  show Rn X m_X12_count (d + 1) 0 [(0, .ref 102), (1, .int v1)] [] (Sh, D) _
  refine r_aload_n (pc := 0) 0 d_X12_count_0 rfl rfl ?_
  refine r_iconst (pc := 1) (0 : Int32) d_X12_count_1 rfl ?_
  refine r_putI (pc := 2) p_X12_113 (K_102 h0) rfl (Or.inl rfl) d_X12_count_2 ?_
  refine r_letD (f := (oI Sh)) (fun D1 => ?_)
  refine r_iload_n (pc := 5) 1 d_X12_count_5 rfl rfl ?_
  refine r_tsw (pc := 6) d_X12_count_6 rfl (fun i off tgt ho hx ht => ?_) (by decide) (fun hx tgt ht => ?_) (by decide)
  · match i, ho with
    | 0, ho =>
      obtain rfl : (30 : Int) = off := Option.some.inj ho
      obtain rfl : 36 = tgt := Int.ofNat.inj ht
      obtain rfl : v1 = (0 : Int32) := z_ieq hx
      show Rn _ _ _ _ _ _ _ ((oI Sh) ((some ((gI D1 102 35), D1))))
      refine r_aload_n (pc := 36) 0 d_X12_count_36 rfl rfl ?_
      refine q_gI (pc := 37) g_X12_233 (K_102 h0) rfl d_X12_count_37 ?_
      exact r_iret (pc := 40) rfl d_X12_count_40
    | 1, ho =>
      obtain rfl : (35 : Int) = off := Option.some.inj ho
      obtain rfl : 41 = tgt := Int.ofNat.inj ht
      obtain rfl : v1 = (1 : Int32) := z_ieq hx
      show Rn _ _ _ _ _ _ _ ((oI Sh) ((some ((gI D1 102 36), D1))))
      refine r_aload_n (pc := 41) 0 d_X12_count_41 rfl rfl ?_
      refine q_gI (pc := 42) g_X12_236 (K_102 h0) rfl d_X12_count_42 ?_
      exact r_iret (pc := 45) rfl d_X12_count_45
    | 2, ho =>
      obtain rfl : (40 : Int) = off := Option.some.inj ho
      obtain rfl : 46 = tgt := Int.ofNat.inj ht
      obtain rfl : v1 = (2 : Int32) := z_ieq hx
      show Rn _ _ _ _ _ _ _ ((oI Sh) ((some ((gI D1 102 37), D1))))
      refine r_aload_n (pc := 46) 0 d_X12_count_46 rfl rfl ?_
      refine q_gI (pc := 47) g_X12_239 (K_102 h0) rfl d_X12_count_47 ?_
      exact r_iret (pc := 50) rfl d_X12_count_50
    | 3, ho =>
      obtain rfl : (45 : Int) = off := Option.some.inj ho
      obtain rfl : 51 = tgt := Int.ofNat.inj ht
      obtain rfl : v1 = (3 : Int32) := z_ieq hx
      show Rn _ _ _ _ _ _ _ ((oI Sh) ((some ((gI D1 102 1), D1))))
      refine r_aload_n (pc := 51) 0 d_X12_count_51 rfl rfl ?_
      refine q_gI (pc := 52) g_X12_116 (K_102 h0) rfl d_X12_count_52 ?_
      exact r_iret (pc := 55) rfl d_X12_count_55
    | i + 4, ho => exact absurd ho (by simp)
  · obtain rfl : 56 = tgt := Int.ofNat.inj ht
    rw [if_neg (show ¬ v1 = 0 from z_ine hx 0 (by decide) (by decide))]
    rw [if_neg (show ¬ v1 = 1 from z_ine hx 1 (by decide) (by decide))]
    rw [if_neg (show ¬ v1 = 2 from z_ine hx 2 (by decide) (by decide))]
    rw [if_neg (show ¬ v1 = 3 from z_ine hx 3 (by decide) (by decide))]
    refine r_iconst (pc := 56) (-1 : Int32) d_X12_count_56 rfl ?_
    exact r_iret (pc := 57) rfl d_X12_count_57

