theorem d_JI_bitCount_0 : decode (yB m_JI_bitCount) 0 = .ok (.iload_n 0, 1) := by decide +kernel
theorem d_JI_bitCount_1 : decode (yB m_JI_bitCount) 1 = .ok (.iload_n 0, 1) := by decide +kernel
theorem d_JI_bitCount_2 : decode (yB m_JI_bitCount) 2 = .ok (.iconst 1, 1) := by decide +kernel
theorem d_JI_bitCount_3 : decode (yB m_JI_bitCount) 3 = .ok (.iushr, 1) := by decide +kernel
theorem d_JI_bitCount_4 : decode (yB m_JI_bitCount) 4 = .ok (.ldc_w 265, 3) := by decide +kernel
theorem d_JI_bitCount_7 : decode (yB m_JI_bitCount) 7 = .ok (.iand, 1) := by decide +kernel
theorem d_JI_bitCount_8 : decode (yB m_JI_bitCount) 8 = .ok (.isub, 1) := by decide +kernel
theorem d_JI_bitCount_9 : decode (yB m_JI_bitCount) 9 = .ok (.istore_n 0, 1) := by decide +kernel
theorem d_JI_bitCount_10 : decode (yB m_JI_bitCount) 10 = .ok (.iload_n 0, 1) := by decide +kernel
theorem d_JI_bitCount_11 : decode (yB m_JI_bitCount) 11 = .ok (.ldc_w 266, 3) := by decide +kernel
theorem d_JI_bitCount_14 : decode (yB m_JI_bitCount) 14 = .ok (.iand, 1) := by decide +kernel
theorem d_JI_bitCount_15 : decode (yB m_JI_bitCount) 15 = .ok (.iload_n 0, 1) := by decide +kernel
theorem d_JI_bitCount_16 : decode (yB m_JI_bitCount) 16 = .ok (.iconst 2, 1) := by decide +kernel
theorem d_JI_bitCount_17 : decode (yB m_JI_bitCount) 17 = .ok (.iushr, 1) := by decide +kernel
theorem d_JI_bitCount_18 : decode (yB m_JI_bitCount) 18 = .ok (.ldc_w 266, 3) := by decide +kernel
theorem d_JI_bitCount_21 : decode (yB m_JI_bitCount) 21 = .ok (.iand, 1) := by decide +kernel
theorem d_JI_bitCount_22 : decode (yB m_JI_bitCount) 22 = .ok (.iadd, 1) := by decide +kernel
theorem d_JI_bitCount_23 : decode (yB m_JI_bitCount) 23 = .ok (.istore_n 0, 1) := by decide +kernel
theorem d_JI_bitCount_24 : decode (yB m_JI_bitCount) 24 = .ok (.iload_n 0, 1) := by decide +kernel
theorem d_JI_bitCount_25 : decode (yB m_JI_bitCount) 25 = .ok (.iload_n 0, 1) := by decide +kernel
theorem d_JI_bitCount_26 : decode (yB m_JI_bitCount) 26 = .ok (.iconst 4, 1) := by decide +kernel
theorem d_JI_bitCount_27 : decode (yB m_JI_bitCount) 27 = .ok (.iushr, 1) := by decide +kernel
theorem d_JI_bitCount_28 : decode (yB m_JI_bitCount) 28 = .ok (.iadd, 1) := by decide +kernel
theorem d_JI_bitCount_29 : decode (yB m_JI_bitCount) 29 = .ok (.ldc_w 267, 3) := by decide +kernel
theorem d_JI_bitCount_32 : decode (yB m_JI_bitCount) 32 = .ok (.iand, 1) := by decide +kernel
theorem d_JI_bitCount_33 : decode (yB m_JI_bitCount) 33 = .ok (.istore_n 0, 1) := by decide +kernel
theorem d_JI_bitCount_34 : decode (yB m_JI_bitCount) 34 = .ok (.iload_n 0, 1) := by decide +kernel
theorem d_JI_bitCount_35 : decode (yB m_JI_bitCount) 35 = .ok (.iload_n 0, 1) := by decide +kernel
theorem d_JI_bitCount_36 : decode (yB m_JI_bitCount) 36 = .ok (.bipush 8, 2) := by decide +kernel
theorem d_JI_bitCount_38 : decode (yB m_JI_bitCount) 38 = .ok (.iushr, 1) := by decide +kernel
theorem d_JI_bitCount_39 : decode (yB m_JI_bitCount) 39 = .ok (.iadd, 1) := by decide +kernel
theorem d_JI_bitCount_40 : decode (yB m_JI_bitCount) 40 = .ok (.istore_n 0, 1) := by decide +kernel
theorem d_JI_bitCount_41 : decode (yB m_JI_bitCount) 41 = .ok (.iload_n 0, 1) := by decide +kernel
theorem d_JI_bitCount_42 : decode (yB m_JI_bitCount) 42 = .ok (.iload_n 0, 1) := by decide +kernel
theorem d_JI_bitCount_43 : decode (yB m_JI_bitCount) 43 = .ok (.bipush 16, 2) := by decide +kernel
theorem d_JI_bitCount_45 : decode (yB m_JI_bitCount) 45 = .ok (.iushr, 1) := by decide +kernel
theorem d_JI_bitCount_46 : decode (yB m_JI_bitCount) 46 = .ok (.iadd, 1) := by decide +kernel
theorem d_JI_bitCount_47 : decode (yB m_JI_bitCount) 47 = .ok (.istore_n 0, 1) := by decide +kernel
theorem d_JI_bitCount_48 : decode (yB m_JI_bitCount) 48 = .ok (.iload_n 0, 1) := by decide +kernel
theorem d_JI_bitCount_49 : decode (yB m_JI_bitCount) 49 = .ok (.bipush 63, 2) := by decide +kernel
theorem d_JI_bitCount_51 : decode (yB m_JI_bitCount) 51 = .ok (.iand, 1) := by decide +kernel
theorem d_JI_bitCount_52 : decode (yB m_JI_bitCount) 52 = .ok (.ireturn, 1) := by decide +kernel
def fn_JI_bitCount (v0 : Int32) : Option Int32 := zlet (v0 - ((zushr v0 (1 : Int32)) &&& (1431655765 : Int32))) fun x1 => zlet ((x1 &&& (858993459 : Int32)) + ((zushr x1 (2 : Int32)) &&& (858993459 : Int32))) fun x2 => zlet ((x2 + (zushr x2 (4 : Int32))) &&& (252645135 : Int32)) fun x3 => zlet (x3 + (zushr x3 (8 : Int32))) fun x4 => zlet (x4 + (zushr x4 (16 : Int32))) fun x5 => (some (x5 &&& (63 : Int32)))
theorem s_JI_bitCount {X : zX} {Sh : zSh} {d : Nat} (hst : (zl X).stackTraces = false) (h0 : zSh0 Sh) (hd : 1 ≤ d) {v0 : Int32} {D : zD} : Sd X m_JI_bitCount d [.int v0] (Sh, D) ((oP Sh D) (fn_JI_bitCount v0)) := by
  obtain ⟨d, rfl⟩ : ∃ e, d = e + 1 := ⟨d - 1, by omega⟩
  replace hd : 0 ≤ d := by omega
  refine z_body ck_JI_bitCount rfl (Nat.le_of_ble_eq_true rfl) rfl hst ?_
  rw [fn_JI_bitCount]
  show Rn X m_JI_bitCount (d + 1) 0 [(0, .int v0)] [] (Sh, D) _
  refine r_iload_n (pc := 0) 0 d_JI_bitCount_0 rfl rfl ?_
  refine r_iload_n (pc := 1) 0 d_JI_bitCount_1 rfl rfl ?_
  refine r_iconst (pc := 2) (1 : Int32) d_JI_bitCount_2 rfl ?_
  refine r_iushr (pc := 3) d_JI_bitCount_3 ?_
  refine r_ldcw (pc := 4) d_JI_bitCount_4 cc_JI_265 ?_
  refine r_iand (pc := 7) d_JI_bitCount_7 ?_
  refine r_isub (pc := 8) d_JI_bitCount_8 ?_
  refine r_leti (f := (oP Sh D)) (fun x1 => ?_)
  refine r_istore_n (pc := 9) (ls' := [(0, .int x1)]) d_JI_bitCount_9 rfl (Nat.le_of_ble_eq_true rfl) rfl ?_
  refine r_iload_n (pc := 10) 0 d_JI_bitCount_10 rfl rfl ?_
  refine r_ldcw (pc := 11) d_JI_bitCount_11 cc_JI_266 ?_
  refine r_iand (pc := 14) d_JI_bitCount_14 ?_
  refine r_iload_n (pc := 15) 0 d_JI_bitCount_15 rfl rfl ?_
  refine r_iconst (pc := 16) (2 : Int32) d_JI_bitCount_16 rfl ?_
  refine r_iushr (pc := 17) d_JI_bitCount_17 ?_
  refine r_ldcw (pc := 18) d_JI_bitCount_18 cc_JI_266 ?_
  refine r_iand (pc := 21) d_JI_bitCount_21 ?_
  refine r_iadd (pc := 22) d_JI_bitCount_22 ?_
  refine r_leti (f := (oP Sh D)) (fun x2 => ?_)
  refine r_istore_n (pc := 23) (ls' := [(0, .int x2)]) d_JI_bitCount_23 rfl (Nat.le_of_ble_eq_true rfl) rfl ?_
  refine r_iload_n (pc := 24) 0 d_JI_bitCount_24 rfl rfl ?_
  refine r_iload_n (pc := 25) 0 d_JI_bitCount_25 rfl rfl ?_
  refine r_iconst (pc := 26) (4 : Int32) d_JI_bitCount_26 rfl ?_
  refine r_iushr (pc := 27) d_JI_bitCount_27 ?_
  refine r_iadd (pc := 28) d_JI_bitCount_28 ?_
  refine r_ldcw (pc := 29) d_JI_bitCount_29 cc_JI_267 ?_
  refine r_iand (pc := 32) d_JI_bitCount_32 ?_
  refine r_leti (f := (oP Sh D)) (fun x3 => ?_)
  refine r_istore_n (pc := 33) (ls' := [(0, .int x3)]) d_JI_bitCount_33 rfl (Nat.le_of_ble_eq_true rfl) rfl ?_
  refine r_iload_n (pc := 34) 0 d_JI_bitCount_34 rfl rfl ?_
  refine r_iload_n (pc := 35) 0 d_JI_bitCount_35 rfl rfl ?_
  refine r_bipush (pc := 36) (8 : Int32) d_JI_bitCount_36 rfl ?_
  refine r_iushr (pc := 38) d_JI_bitCount_38 ?_
  refine r_iadd (pc := 39) d_JI_bitCount_39 ?_
  refine r_leti (f := (oP Sh D)) (fun x4 => ?_)
  refine r_istore_n (pc := 40) (ls' := [(0, .int x4)]) d_JI_bitCount_40 rfl (Nat.le_of_ble_eq_true rfl) rfl ?_
  refine r_iload_n (pc := 41) 0 d_JI_bitCount_41 rfl rfl ?_
  refine r_iload_n (pc := 42) 0 d_JI_bitCount_42 rfl rfl ?_
  refine r_bipush (pc := 43) (16 : Int32) d_JI_bitCount_43 rfl ?_
  refine r_iushr (pc := 45) d_JI_bitCount_45 ?_
  refine r_iadd (pc := 46) d_JI_bitCount_46 ?_
  refine r_leti (f := (oP Sh D)) (fun x5 => ?_)
  refine r_istore_n (pc := 47) (ls' := [(0, .int x5)]) d_JI_bitCount_47 rfl (Nat.le_of_ble_eq_true rfl) rfl ?_
  refine r_iload_n (pc := 48) 0 d_JI_bitCount_48 rfl rfl ?_
  refine r_bipush (pc := 49) (63 : Int32) d_JI_bitCount_49 rfl ?_
  refine r_iand (pc := 51) d_JI_bitCount_51 ?_
  exact r_iret (pc := 52) rfl d_JI_bitCount_52
theorem d_JJ_bitCount_0 : decode (yB m_JJ_bitCount) 0 = .ok (.lload_n 0, 1) := by decide +kernel
theorem d_JJ_bitCount_1 : decode (yB m_JJ_bitCount) 1 = .ok (.lload_n 0, 1) := by decide +kernel
theorem d_JJ_bitCount_2 : decode (yB m_JJ_bitCount) 2 = .ok (.iconst 1, 1) := by decide +kernel
theorem d_JJ_bitCount_3 : decode (yB m_JJ_bitCount) 3 = .ok (.lushr, 1) := by decide +kernel
theorem d_JJ_bitCount_4 : decode (yB m_JJ_bitCount) 4 = .ok (.ldc2_w 314, 3) := by decide +kernel
theorem d_JJ_bitCount_7 : decode (yB m_JJ_bitCount) 7 = .ok (.land, 1) := by decide +kernel
theorem d_JJ_bitCount_8 : decode (yB m_JJ_bitCount) 8 = .ok (.lsub, 1) := by decide +kernel
theorem d_JJ_bitCount_9 : decode (yB m_JJ_bitCount) 9 = .ok (.lstore_n 0, 1) := by decide +kernel
theorem d_JJ_bitCount_10 : decode (yB m_JJ_bitCount) 10 = .ok (.lload_n 0, 1) := by decide +kernel
theorem d_JJ_bitCount_11 : decode (yB m_JJ_bitCount) 11 = .ok (.ldc2_w 316, 3) := by decide +kernel
theorem d_JJ_bitCount_14 : decode (yB m_JJ_bitCount) 14 = .ok (.land, 1) := by decide +kernel
theorem d_JJ_bitCount_15 : decode (yB m_JJ_bitCount) 15 = .ok (.lload_n 0, 1) := by decide +kernel
theorem d_JJ_bitCount_16 : decode (yB m_JJ_bitCount) 16 = .ok (.iconst 2, 1) := by decide +kernel
theorem d_JJ_bitCount_17 : decode (yB m_JJ_bitCount) 17 = .ok (.lushr, 1) := by decide +kernel
theorem d_JJ_bitCount_18 : decode (yB m_JJ_bitCount) 18 = .ok (.ldc2_w 316, 3) := by decide +kernel
theorem d_JJ_bitCount_21 : decode (yB m_JJ_bitCount) 21 = .ok (.land, 1) := by decide +kernel
theorem d_JJ_bitCount_22 : decode (yB m_JJ_bitCount) 22 = .ok (.ladd, 1) := by decide +kernel
theorem d_JJ_bitCount_23 : decode (yB m_JJ_bitCount) 23 = .ok (.lstore_n 0, 1) := by decide +kernel
theorem d_JJ_bitCount_24 : decode (yB m_JJ_bitCount) 24 = .ok (.lload_n 0, 1) := by decide +kernel
theorem d_JJ_bitCount_25 : decode (yB m_JJ_bitCount) 25 = .ok (.lload_n 0, 1) := by decide +kernel
theorem d_JJ_bitCount_26 : decode (yB m_JJ_bitCount) 26 = .ok (.iconst 4, 1) := by decide +kernel
theorem d_JJ_bitCount_27 : decode (yB m_JJ_bitCount) 27 = .ok (.lushr, 1) := by decide +kernel
theorem d_JJ_bitCount_28 : decode (yB m_JJ_bitCount) 28 = .ok (.ladd, 1) := by decide +kernel
theorem d_JJ_bitCount_29 : decode (yB m_JJ_bitCount) 29 = .ok (.ldc2_w 318, 3) := by decide +kernel
theorem d_JJ_bitCount_32 : decode (yB m_JJ_bitCount) 32 = .ok (.land, 1) := by decide +kernel
theorem d_JJ_bitCount_33 : decode (yB m_JJ_bitCount) 33 = .ok (.lstore_n 0, 1) := by decide +kernel
theorem d_JJ_bitCount_34 : decode (yB m_JJ_bitCount) 34 = .ok (.lload_n 0, 1) := by decide +kernel
theorem d_JJ_bitCount_35 : decode (yB m_JJ_bitCount) 35 = .ok (.lload_n 0, 1) := by decide +kernel
theorem d_JJ_bitCount_36 : decode (yB m_JJ_bitCount) 36 = .ok (.bipush 8, 2) := by decide +kernel
theorem d_JJ_bitCount_38 : decode (yB m_JJ_bitCount) 38 = .ok (.lushr, 1) := by decide +kernel
theorem d_JJ_bitCount_39 : decode (yB m_JJ_bitCount) 39 = .ok (.ladd, 1) := by decide +kernel
theorem d_JJ_bitCount_40 : decode (yB m_JJ_bitCount) 40 = .ok (.lstore_n 0, 1) := by decide +kernel
theorem d_JJ_bitCount_41 : decode (yB m_JJ_bitCount) 41 = .ok (.lload_n 0, 1) := by decide +kernel
theorem d_JJ_bitCount_42 : decode (yB m_JJ_bitCount) 42 = .ok (.lload_n 0, 1) := by decide +kernel
theorem d_JJ_bitCount_43 : decode (yB m_JJ_bitCount) 43 = .ok (.bipush 16, 2) := by decide +kernel
theorem d_JJ_bitCount_45 : decode (yB m_JJ_bitCount) 45 = .ok (.lushr, 1) := by decide +kernel
theorem d_JJ_bitCount_46 : decode (yB m_JJ_bitCount) 46 = .ok (.ladd, 1) := by decide +kernel
theorem d_JJ_bitCount_47 : decode (yB m_JJ_bitCount) 47 = .ok (.lstore_n 0, 1) := by decide +kernel
theorem d_JJ_bitCount_48 : decode (yB m_JJ_bitCount) 48 = .ok (.lload_n 0, 1) := by decide +kernel
theorem d_JJ_bitCount_49 : decode (yB m_JJ_bitCount) 49 = .ok (.lload_n 0, 1) := by decide +kernel
theorem d_JJ_bitCount_50 : decode (yB m_JJ_bitCount) 50 = .ok (.bipush 32, 2) := by decide +kernel
theorem d_JJ_bitCount_52 : decode (yB m_JJ_bitCount) 52 = .ok (.lushr, 1) := by decide +kernel
theorem d_JJ_bitCount_53 : decode (yB m_JJ_bitCount) 53 = .ok (.ladd, 1) := by decide +kernel
theorem d_JJ_bitCount_54 : decode (yB m_JJ_bitCount) 54 = .ok (.lstore_n 0, 1) := by decide +kernel
theorem d_JJ_bitCount_55 : decode (yB m_JJ_bitCount) 55 = .ok (.lload_n 0, 1) := by decide +kernel
theorem d_JJ_bitCount_56 : decode (yB m_JJ_bitCount) 56 = .ok (.l2i, 1) := by decide +kernel
theorem d_JJ_bitCount_57 : decode (yB m_JJ_bitCount) 57 = .ok (.bipush 127, 2) := by decide +kernel
theorem d_JJ_bitCount_59 : decode (yB m_JJ_bitCount) 59 = .ok (.iand, 1) := by decide +kernel
theorem d_JJ_bitCount_60 : decode (yB m_JJ_bitCount) 60 = .ok (.ireturn, 1) := by decide +kernel
def fn_JJ_bitCount (v0 : Int64) : Option Int32 := zlet (v0 - ((zlushr v0 (1 : Int32)) &&& (6148914691236517205 : Int64))) fun x1 => zlet ((x1 &&& (3689348814741910323 : Int64)) + ((zlushr x1 (2 : Int32)) &&& (3689348814741910323 : Int64))) fun x2 => zlet ((x2 + (zlushr x2 (4 : Int32))) &&& (1085102592571150095 : Int64)) fun x3 => zlet (x3 + (zlushr x3 (8 : Int32))) fun x4 => zlet (x4 + (zlushr x4 (16 : Int32))) fun x5 => zlet (x5 + (zlushr x5 (32 : Int32))) fun x6 => (some ((x6).toInt32 &&& (127 : Int32)))
theorem s_JJ_bitCount {X : zX} {Sh : zSh} {d : Nat} (hst : (zl X).stackTraces = false) (h0 : zSh0 Sh) (hd : 1 ≤ d) {v0 : Int64} {D : zD} : Sd X m_JJ_bitCount d [.long v0] (Sh, D) ((oP Sh D) (fn_JJ_bitCount v0)) := by
  obtain ⟨d, rfl⟩ : ∃ e, d = e + 1 := ⟨d - 1, by omega⟩
  replace hd : 0 ≤ d := by omega
  refine z_body ck_JJ_bitCount rfl (Nat.le_of_ble_eq_true rfl) rfl hst ?_
  rw [fn_JJ_bitCount]
  show Rn X m_JJ_bitCount (d + 1) 0 [(0, .long v0)] [] (Sh, D) _
  refine r_lload_n (pc := 0) 0 d_JJ_bitCount_0 rfl rfl ?_
  refine r_lload_n (pc := 1) 0 d_JJ_bitCount_1 rfl rfl ?_
  refine r_iconst (pc := 2) (1 : Int32) d_JJ_bitCount_2 rfl ?_
  refine r_lushr (pc := 3) d_JJ_bitCount_3 ?_
  refine r_ldc2 (pc := 4) d_JJ_bitCount_4 cc_JJ_314 ?_
  refine r_land (pc := 7) d_JJ_bitCount_7 ?_
  refine r_lsub (pc := 8) d_JJ_bitCount_8 ?_
  refine r_letj (f := (oP Sh D)) (fun x1 => ?_)
  refine r_lstore_n (pc := 9) (ls' := [(0, .long x1)]) d_JJ_bitCount_9 rfl (Nat.le_of_ble_eq_true rfl) rfl ?_
  refine r_lload_n (pc := 10) 0 d_JJ_bitCount_10 rfl rfl ?_
  refine r_ldc2 (pc := 11) d_JJ_bitCount_11 cc_JJ_316 ?_
  refine r_land (pc := 14) d_JJ_bitCount_14 ?_
  refine r_lload_n (pc := 15) 0 d_JJ_bitCount_15 rfl rfl ?_
  refine r_iconst (pc := 16) (2 : Int32) d_JJ_bitCount_16 rfl ?_
  refine r_lushr (pc := 17) d_JJ_bitCount_17 ?_
  refine r_ldc2 (pc := 18) d_JJ_bitCount_18 cc_JJ_316 ?_
  refine r_land (pc := 21) d_JJ_bitCount_21 ?_
  refine r_ladd (pc := 22) d_JJ_bitCount_22 ?_
  refine r_letj (f := (oP Sh D)) (fun x2 => ?_)
  refine r_lstore_n (pc := 23) (ls' := [(0, .long x2)]) d_JJ_bitCount_23 rfl (Nat.le_of_ble_eq_true rfl) rfl ?_
  refine r_lload_n (pc := 24) 0 d_JJ_bitCount_24 rfl rfl ?_
  refine r_lload_n (pc := 25) 0 d_JJ_bitCount_25 rfl rfl ?_
  refine r_iconst (pc := 26) (4 : Int32) d_JJ_bitCount_26 rfl ?_
  refine r_lushr (pc := 27) d_JJ_bitCount_27 ?_
  refine r_ladd (pc := 28) d_JJ_bitCount_28 ?_
  refine r_ldc2 (pc := 29) d_JJ_bitCount_29 cc_JJ_318 ?_
  refine r_land (pc := 32) d_JJ_bitCount_32 ?_
  refine r_letj (f := (oP Sh D)) (fun x3 => ?_)
  refine r_lstore_n (pc := 33) (ls' := [(0, .long x3)]) d_JJ_bitCount_33 rfl (Nat.le_of_ble_eq_true rfl) rfl ?_
  refine r_lload_n (pc := 34) 0 d_JJ_bitCount_34 rfl rfl ?_
  refine r_lload_n (pc := 35) 0 d_JJ_bitCount_35 rfl rfl ?_
  refine r_bipush (pc := 36) (8 : Int32) d_JJ_bitCount_36 rfl ?_
  refine r_lushr (pc := 38) d_JJ_bitCount_38 ?_
  refine r_ladd (pc := 39) d_JJ_bitCount_39 ?_
  refine r_letj (f := (oP Sh D)) (fun x4 => ?_)
  refine r_lstore_n (pc := 40) (ls' := [(0, .long x4)]) d_JJ_bitCount_40 rfl (Nat.le_of_ble_eq_true rfl) rfl ?_
  refine r_lload_n (pc := 41) 0 d_JJ_bitCount_41 rfl rfl ?_
  refine r_lload_n (pc := 42) 0 d_JJ_bitCount_42 rfl rfl ?_
  refine r_bipush (pc := 43) (16 : Int32) d_JJ_bitCount_43 rfl ?_
  refine r_lushr (pc := 45) d_JJ_bitCount_45 ?_
  refine r_ladd (pc := 46) d_JJ_bitCount_46 ?_
  refine r_letj (f := (oP Sh D)) (fun x5 => ?_)
  refine r_lstore_n (pc := 47) (ls' := [(0, .long x5)]) d_JJ_bitCount_47 rfl (Nat.le_of_ble_eq_true rfl) rfl ?_
  refine r_lload_n (pc := 48) 0 d_JJ_bitCount_48 rfl rfl ?_
  refine r_lload_n (pc := 49) 0 d_JJ_bitCount_49 rfl rfl ?_
  refine r_bipush (pc := 50) (32 : Int32) d_JJ_bitCount_50 rfl ?_
  refine r_lushr (pc := 52) d_JJ_bitCount_52 ?_
  refine r_ladd (pc := 53) d_JJ_bitCount_53 ?_
  refine r_letj (f := (oP Sh D)) (fun x6 => ?_)
  refine r_lstore_n (pc := 54) (ls' := [(0, .long x6)]) d_JJ_bitCount_54 rfl (Nat.le_of_ble_eq_true rfl) rfl ?_
  refine r_lload_n (pc := 55) 0 d_JJ_bitCount_55 rfl rfl ?_
  refine r_l2i (pc := 56) d_JJ_bitCount_56 ?_
  refine r_bipush (pc := 57) (127 : Int32) d_JJ_bitCount_57 rfl ?_
  refine r_iand (pc := 59) d_JJ_bitCount_59 ?_
  exact r_iret (pc := 60) rfl d_JJ_bitCount_60
theorem d_JA_fill_0 : decode (yB m_JA_fill) 0 = .ok (.iconst 0, 1) := by decide +kernel
theorem d_JA_fill_1 : decode (yB m_JA_fill) 1 = .ok (.istore_n 3, 1) := by decide +kernel
theorem d_JA_fill_2 : decode (yB m_JA_fill) 2 = .ok (.aload_n 0, 1) := by decide +kernel
theorem d_JA_fill_3 : decode (yB m_JA_fill) 3 = .ok (.arraylength, 1) := by decide +kernel
theorem d_JA_fill_4 : decode (yB m_JA_fill) 4 = .ok (.istore 4, 2) := by decide +kernel
theorem d_JA_fill_6 : decode (yB m_JA_fill) 6 = .ok (.iload_n 3, 1) := by decide +kernel
theorem d_JA_fill_7 : decode (yB m_JA_fill) 7 = .ok (.iload 4, 2) := by decide +kernel
theorem d_JA_fill_9 : decode (yB m_JA_fill) 9 = .ok (.if_icmp .ge 13, 3) := by decide +kernel
theorem d_JA_fill_12 : decode (yB m_JA_fill) 12 = .ok (.aload_n 0, 1) := by decide +kernel
theorem d_JA_fill_13 : decode (yB m_JA_fill) 13 = .ok (.iload_n 3, 1) := by decide +kernel
theorem d_JA_fill_14 : decode (yB m_JA_fill) 14 = .ok (.lload_n 1, 1) := by decide +kernel
theorem d_JA_fill_15 : decode (yB m_JA_fill) 15 = .ok (.lastore, 1) := by decide +kernel
theorem d_JA_fill_16 : decode (yB m_JA_fill) 16 = .ok (.iinc 3 1, 3) := by decide +kernel
theorem d_JA_fill_19 : decode (yB m_JA_fill) 19 = .ok (.goto (-13), 3) := by decide +kernel
theorem d_JA_fill_22 : decode (yB m_JA_fill) 22 = .ok (.return_, 1) := by decide +kernel
def fn_JA_fill_6 (a0 n0 : Nat) (v1 : Int64) : Nat → Int32 → Int32 → zD → Option zD
  | 0, _, _, _ => none
  | n + 1, v3, v4, D => (if v4 ≤ v3 then ((some D)) else (zck v3 n0 <| zlet (sL D a0 v3.toNatClampNeg v1) fun D4 => ((fn_JA_fill_6 a0 n0 v1 n) (v3 + (1 : Int32)) v4 D4)))
def fn_JA_fill (a0 n0 : Nat) (v1 : Int64) (D : zD) : Option zD := zlet (Int32.ofNat n0) fun x1 => (fn_JA_fill_6 a0 n0 v1 zFU (0 : Int32) x1 D)
theorem s_JA_fill_6 {X : zX} {Sh : zSh} {d : Nat} (hst : (zl X).stackTraces = false) (h0 : zSh0 Sh) (hd : 0 ≤ d) {a0 n0 : Nat} {v1 : Int64} (h_a0 : Sh.1[a0]? = some (1, n0)) (hn0 : n0 < 2147483648) : ∀ (n : Nat) (v3 : Int32) (v4 : Int32) (D : zD) , Rn X m_JA_fill (d + 1) 6 [(0, .ref a0), (1, .long v1), (3, .int v3), (4, .int v4)] [] (Sh, D) ((oV Sh) (fn_JA_fill_6 a0 n0 v1 n v3 v4 D)) := by
  intro n
  induction n with
  | zero => intro v3 v4 D; exact Rn_none rfl
  | succ n hk6 =>
    intro v3 v4 D
    rw [fn_JA_fill_6]
    refine r_iload_n (pc := 6) 2 d_JA_fill_6 rfl rfl ?_
    refine r_iload (pc := 7) 3 d_JA_fill_7 rfl ?_
    refine r_icmp_ge (f := (oV Sh)) (pc := 9) 22 d_JA_fill_9 (by decide) (fun c2 => ?_) (fun c2 => ?_)
    · exact r_vret (pc := 22) rfl d_JA_fill_22
    · refine r_aload_n (pc := 12) 0 d_JA_fill_12 rfl rfl ?_
      refine r_iload_n (pc := 13) 2 d_JA_fill_13 rfl rfl ?_
      refine r_lload_n (pc := 14) 1 d_JA_fill_14 rfl rfl ?_
      refine r_ck (f := (oV Sh)) rfl (fun hc3 => ?_)
      refine q_last (pc := 15) (j := v3.toNatClampNeg) h_a0 hc3 rfl  d_JA_fill_15 ?_
      refine r_letD (f := (oV Sh)) (fun D4 => ?_)
      refine r_iinc (pc := 16) ((v3 + (1 : Int32))) 2 (ls' := [(3, .int (v3 + (1 : Int32))), (0, .ref a0), (1, .long v1), (4, .int v4)]) d_JA_fill_16 rfl rfl (Nat.le_of_ble_eq_true rfl) rfl ?_
      refine r_goto (pc := 19) 6 d_JA_fill_19 (by decide) ?_
      refine r_pick [1, 2, 0, 3] (ls' := [(0, .ref a0), (1, .long v1), (3, .int (v3 + (1 : Int32))), (4, .int v4)]) rfl ?_
      exact hk6 (v3 + (1 : Int32)) v4 D4 
theorem s_JA_fill {X : zX} {Sh : zSh} {d : Nat} (hst : (zl X).stackTraces = false) (h0 : zSh0 Sh) (hd : 1 ≤ d) {a0 n0 : Nat} {v1 : Int64} (h_a0 : Sh.1[a0]? = some (1, n0)) (hn0 : n0 < 2147483648) {D : zD} : Sd X m_JA_fill d [.ref a0, .long v1] (Sh, D) ((oV Sh) (fn_JA_fill a0 n0 v1 D)) := by
  obtain ⟨d, rfl⟩ : ∃ e, d = e + 1 := ⟨d - 1, by omega⟩
  replace hd : 0 ≤ d := by omega
  refine z_body ck_JA_fill rfl (Nat.le_of_ble_eq_true rfl) rfl hst ?_
  rw [fn_JA_fill]
  show Rn X m_JA_fill (d + 1) 0 [(0, .ref a0), (1, .long v1)] [] (Sh, D) _
  refine r_iconst (pc := 0) (0 : Int32) d_JA_fill_0 rfl ?_
  refine r_istore_n (pc := 1) (ls' := [(3, .int (0 : Int32)), (0, .ref a0), (1, .long v1)]) d_JA_fill_1 rfl (Nat.le_of_ble_eq_true rfl) rfl ?_
  refine r_aload_n (pc := 2) 1 d_JA_fill_2 rfl rfl ?_
  refine r_alen (pc := 3) h_a0 (by decide) d_JA_fill_3 ?_
  refine r_leti (f := (oV Sh)) (fun x1 => ?_)
  refine r_istore (pc := 4) (ls' := [(4, .int x1), (3, .int (0 : Int32)), (0, .ref a0), (1, .long v1)]) d_JA_fill_4 (Nat.le_of_ble_eq_true rfl) rfl ?_
  refine r_pick [2, 3, 1, 0] (ls' := [(0, .ref a0), (1, .long v1), (3, .int (0 : Int32)), (4, .int x1)]) rfl ?_
  exact s_JA_fill_6 hst h0 hd h_a0 hn0 zFU  (0 : Int32) x1 D
theorem d_JA_fill2_0 : decode (yB m_JA_fill2) 0 = .ok (.iconst 0, 1) := by decide +kernel
theorem d_JA_fill2_1 : decode (yB m_JA_fill2) 1 = .ok (.istore_n 2, 1) := by decide +kernel
theorem d_JA_fill2_2 : decode (yB m_JA_fill2) 2 = .ok (.aload_n 0, 1) := by decide +kernel
theorem d_JA_fill2_3 : decode (yB m_JA_fill2) 3 = .ok (.arraylength, 1) := by decide +kernel
theorem d_JA_fill2_4 : decode (yB m_JA_fill2) 4 = .ok (.istore_n 3, 1) := by decide +kernel
theorem d_JA_fill2_5 : decode (yB m_JA_fill2) 5 = .ok (.iload_n 2, 1) := by decide +kernel
theorem d_JA_fill2_6 : decode (yB m_JA_fill2) 6 = .ok (.iload_n 3, 1) := by decide +kernel
theorem d_JA_fill2_7 : decode (yB m_JA_fill2) 7 = .ok (.if_icmp .ge 13, 3) := by decide +kernel
theorem d_JA_fill2_10 : decode (yB m_JA_fill2) 10 = .ok (.aload_n 0, 1) := by decide +kernel
theorem d_JA_fill2_11 : decode (yB m_JA_fill2) 11 = .ok (.iload_n 2, 1) := by decide +kernel
theorem d_JA_fill2_12 : decode (yB m_JA_fill2) 12 = .ok (.iload_n 1, 1) := by decide +kernel
theorem d_JA_fill2_13 : decode (yB m_JA_fill2) 13 = .ok (.iastore, 1) := by decide +kernel
theorem d_JA_fill2_14 : decode (yB m_JA_fill2) 14 = .ok (.iinc 2 1, 3) := by decide +kernel
theorem d_JA_fill2_17 : decode (yB m_JA_fill2) 17 = .ok (.goto (-12), 3) := by decide +kernel
theorem d_JA_fill2_20 : decode (yB m_JA_fill2) 20 = .ok (.return_, 1) := by decide +kernel
def fn_JA_fill2_5 (a0 n0 : Nat) (v1 : Int32) : Nat → Int32 → Int32 → zD → Option zD
  | 0, _, _, _ => none
  | n + 1, v2, v3, D => (if v3 ≤ v2 then ((some D)) else (zck v2 n0 <| zlet (sI D a0 v2.toNatClampNeg v1) fun D4 => ((fn_JA_fill2_5 a0 n0 v1 n) (v2 + (1 : Int32)) v3 D4)))
def fn_JA_fill2 (a0 n0 : Nat) (v1 : Int32) (D : zD) : Option zD := zlet (Int32.ofNat n0) fun x1 => (fn_JA_fill2_5 a0 n0 v1 zFU (0 : Int32) x1 D)
theorem s_JA_fill2_5 {X : zX} {Sh : zSh} {d : Nat} (hst : (zl X).stackTraces = false) (h0 : zSh0 Sh) (hd : 0 ≤ d) {a0 n0 : Nat} {v1 : Int32} (h_a0 : Sh.1[a0]? = some (0, n0)) (hn0 : n0 < 2147483648) : ∀ (n : Nat) (v2 : Int32) (v3 : Int32) (D : zD) , Rn X m_JA_fill2 (d + 1) 5 [(0, .ref a0), (1, .int v1), (2, .int v2), (3, .int v3)] [] (Sh, D) ((oV Sh) (fn_JA_fill2_5 a0 n0 v1 n v2 v3 D)) := by
  intro n
  induction n with
  | zero => intro v2 v3 D; exact Rn_none rfl
  | succ n hk5 =>
    intro v2 v3 D
    rw [fn_JA_fill2_5]
    refine r_iload_n (pc := 5) 2 d_JA_fill2_5 rfl rfl ?_
    refine r_iload_n (pc := 6) 3 d_JA_fill2_6 rfl rfl ?_
    refine r_icmp_ge (f := (oV Sh)) (pc := 7) 20 d_JA_fill2_7 (by decide) (fun c2 => ?_) (fun c2 => ?_)
    · exact r_vret (pc := 20) rfl d_JA_fill2_20
    · refine r_aload_n (pc := 10) 0 d_JA_fill2_10 rfl rfl ?_
      refine r_iload_n (pc := 11) 2 d_JA_fill2_11 rfl rfl ?_
      refine r_iload_n (pc := 12) 1 d_JA_fill2_12 rfl rfl ?_
      refine r_ck (f := (oV Sh)) rfl (fun hc3 => ?_)
      refine q_iast (pc := 13) (j := v2.toNatClampNeg) h_a0 hc3 rfl  d_JA_fill2_13 ?_
      refine r_letD (f := (oV Sh)) (fun D4 => ?_)
      refine r_iinc (pc := 14) ((v2 + (1 : Int32))) 2 (ls' := [(2, .int (v2 + (1 : Int32))), (0, .ref a0), (1, .int v1), (3, .int v3)]) d_JA_fill2_14 rfl rfl (Nat.le_of_ble_eq_true rfl) rfl ?_
      refine r_goto (pc := 17) 5 d_JA_fill2_17 (by decide) ?_
      refine r_pick [1, 2, 0, 3] (ls' := [(0, .ref a0), (1, .int v1), (2, .int (v2 + (1 : Int32))), (3, .int v3)]) rfl ?_
      exact hk5 (v2 + (1 : Int32)) v3 D4 
theorem s_JA_fill2 {X : zX} {Sh : zSh} {d : Nat} (hst : (zl X).stackTraces = false) (h0 : zSh0 Sh) (hd : 1 ≤ d) {a0 n0 : Nat} {v1 : Int32} (h_a0 : Sh.1[a0]? = some (0, n0)) (hn0 : n0 < 2147483648) {D : zD} : Sd X m_JA_fill2 d [.ref a0, .int v1] (Sh, D) ((oV Sh) (fn_JA_fill2 a0 n0 v1 D)) := by
  obtain ⟨d, rfl⟩ : ∃ e, d = e + 1 := ⟨d - 1, by omega⟩
  replace hd : 0 ≤ d := by omega
  refine z_body ck_JA_fill2 rfl (Nat.le_of_ble_eq_true rfl) rfl hst ?_
  rw [fn_JA_fill2]
  show Rn X m_JA_fill2 (d + 1) 0 [(0, .ref a0), (1, .int v1)] [] (Sh, D) _
  refine r_iconst (pc := 0) (0 : Int32) d_JA_fill2_0 rfl ?_
  refine r_istore_n (pc := 1) (ls' := [(2, .int (0 : Int32)), (0, .ref a0), (1, .int v1)]) d_JA_fill2_1 rfl (Nat.le_of_ble_eq_true rfl) rfl ?_
  refine r_aload_n (pc := 2) 1 d_JA_fill2_2 rfl rfl ?_
  refine r_alen (pc := 3) h_a0 (by decide) d_JA_fill2_3 ?_
  refine r_leti (f := (oV Sh)) (fun x1 => ?_)
  refine r_istore_n (pc := 4) (ls' := [(3, .int x1), (2, .int (0 : Int32)), (0, .ref a0), (1, .int v1)]) d_JA_fill2_4 rfl (Nat.le_of_ble_eq_true rfl) rfl ?_
  refine r_pick [2, 3, 1, 0] (ls' := [(0, .ref a0), (1, .int v1), (2, .int (0 : Int32)), (3, .int x1)]) rfl ?_
  exact s_JA_fill2_5 hst h0 hd h_a0 hn0 zFU  (0 : Int32) x1 D
theorem d_X11_lowestOf_0 : decode (yB m_X11_lowestOf) 0 = .ok (.iload_n 0, 1) := by decide +kernel
theorem d_X11_lowestOf_1 : decode (yB m_X11_lowestOf) 1 = .ok (.iload_n 0, 1) := by decide +kernel
theorem d_X11_lowestOf_2 : decode (yB m_X11_lowestOf) 2 = .ok (.ineg, 1) := by decide +kernel
theorem d_X11_lowestOf_3 : decode (yB m_X11_lowestOf) 3 = .ok (.iand, 1) := by decide +kernel
theorem d_X11_lowestOf_4 : decode (yB m_X11_lowestOf) 4 = .ok (.iconst 1, 1) := by decide +kernel
theorem d_X11_lowestOf_5 : decode (yB m_X11_lowestOf) 5 = .ok (.isub, 1) := by decide +kernel
theorem d_X11_lowestOf_6 : decode (yB m_X11_lowestOf) 6 = .ok (.invokestatic 295, 3) := by decide +kernel
theorem d_X11_lowestOf_9 : decode (yB m_X11_lowestOf) 9 = .ok (.ireturn, 1) := by decide +kernel
def fn_X11_lowestOf (v0 : Int32) : Option Int32 := (fn_JI_bitCount ((v0 &&& (-v0)) - (1 : Int32))).bind fun x1 => (some x1)
theorem s_X11_lowestOf {X : zX} {Sh : zSh} {d : Nat} (hst : (zl X).stackTraces = false) (h0 : zSh0 Sh) (hd : 2 ≤ d) {v0 : Int32} {D : zD} : Sd X m_X11_lowestOf d [.int v0] (Sh, D) ((oP Sh D) (fn_X11_lowestOf v0)) := by
  obtain ⟨d, rfl⟩ : ∃ e, d = e + 1 := ⟨d - 1, by omega⟩
  replace hd : 1 ≤ d := by omega
  refine z_body ck_X11_lowestOf rfl (Nat.le_of_ble_eq_true rfl) rfl hst ?_
  rw [fn_X11_lowestOf]
  show Rn X m_X11_lowestOf (d + 1) 0 [(0, .int v0)] [] (Sh, D) _
  refine r_iload_n (pc := 0) 0 d_X11_lowestOf_0 rfl rfl ?_
  refine r_iload_n (pc := 1) 0 d_X11_lowestOf_1 rfl rfl ?_
  refine r_ineg (pc := 2) d_X11_lowestOf_2 ?_
  refine r_iand (pc := 3) d_X11_lowestOf_3 ?_
  refine r_iconst (pc := 4) (1 : Int32) d_X11_lowestOf_4 rfl ?_
  refine r_isub (pc := 5) d_X11_lowestOf_5 ?_
  refine q_cP (f := (oP Sh D)) (av := [.int ((v0 &&& (-v0)) - (1 : Int32))]) (st := []) (z_runS ck_JI_bitCount rfl ml_X11_295 cs_JI_bitCount rfl (Nat.le_of_ble_eq_true rfl) d_X11_lowestOf_6) (s_JI_bitCount hst h0 (by omega)) kp_P (fun x1 _ => ?_)
  exact r_iret (pc := 9) rfl d_X11_lowestOf_9
