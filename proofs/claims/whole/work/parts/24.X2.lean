/-! CoveredSigns$Codes.has -/
theorem d_X2_has_0 : decode (yB m_X2_has) 0 = .ok (.iload_n 1, 1) := by decide +kernel
theorem d_X2_has_1 : decode (yB m_X2_has) 1 = .ok (.bipush 6, 2) := by decide +kernel
theorem d_X2_has_3 : decode (yB m_X2_has) 3 = .ok (.ishr, 1) := by decide +kernel
theorem d_X2_has_4 : decode (yB m_X2_has) 4 = .ok (.istore_n 2, 1) := by decide +kernel
theorem d_X2_has_5 : decode (yB m_X2_has) 5 = .ok (.aload_n 0, 1) := by decide +kernel
theorem d_X2_has_6 : decode (yB m_X2_has) 6 = .ok (.ifnull 32, 3) := by decide +kernel
theorem d_X2_has_9 : decode (yB m_X2_has) 9 = .ok (.iload_n 2, 1) := by decide +kernel
theorem d_X2_has_10 : decode (yB m_X2_has) 10 = .ok (.ifCond .lt 28, 3) := by decide +kernel
theorem d_X2_has_13 : decode (yB m_X2_has) 13 = .ok (.iload_n 2, 1) := by decide +kernel
theorem d_X2_has_14 : decode (yB m_X2_has) 14 = .ok (.aload_n 0, 1) := by decide +kernel
theorem d_X2_has_15 : decode (yB m_X2_has) 15 = .ok (.arraylength, 1) := by decide +kernel
theorem d_X2_has_16 : decode (yB m_X2_has) 16 = .ok (.if_icmp .ge 22, 3) := by decide +kernel
theorem d_X2_has_19 : decode (yB m_X2_has) 19 = .ok (.aload_n 0, 1) := by decide +kernel
theorem d_X2_has_20 : decode (yB m_X2_has) 20 = .ok (.iload_n 2, 1) := by decide +kernel
theorem d_X2_has_21 : decode (yB m_X2_has) 21 = .ok (.laload, 1) := by decide +kernel
theorem d_X2_has_22 : decode (yB m_X2_has) 22 = .ok (.iload_n 1, 1) := by decide +kernel
theorem d_X2_has_23 : decode (yB m_X2_has) 23 = .ok (.bipush 63, 2) := by decide +kernel
theorem d_X2_has_25 : decode (yB m_X2_has) 25 = .ok (.iand, 1) := by decide +kernel
theorem d_X2_has_26 : decode (yB m_X2_has) 26 = .ok (.lushr, 1) := by decide +kernel
theorem d_X2_has_27 : decode (yB m_X2_has) 27 = .ok (.lconst 1, 1) := by decide +kernel
theorem d_X2_has_28 : decode (yB m_X2_has) 28 = .ok (.land, 1) := by decide +kernel
theorem d_X2_has_29 : decode (yB m_X2_has) 29 = .ok (.lconst 0, 1) := by decide +kernel
theorem d_X2_has_30 : decode (yB m_X2_has) 30 = .ok (.lcmp, 1) := by decide +kernel
theorem d_X2_has_31 : decode (yB m_X2_has) 31 = .ok (.ifCond .eq 7, 3) := by decide +kernel
theorem d_X2_has_34 : decode (yB m_X2_has) 34 = .ok (.iconst 1, 1) := by decide +kernel
theorem d_X2_has_35 : decode (yB m_X2_has) 35 = .ok (.goto 4, 3) := by decide +kernel
theorem d_X2_has_38 : decode (yB m_X2_has) 38 = .ok (.iconst 0, 1) := by decide +kernel
theorem d_X2_has_39 : decode (yB m_X2_has) 39 = .ok (.ireturn, 1) := by decide +kernel
def fn_X2_has (a0 n0 : Nat) (v1 : Int32) (D : zD) : Option Int32 := zlet (v1 >>> ((6 : Int32) &&& 31)) fun x1 => (if x1 < 0 then ((some (0 : Int32))) else ((if (Int32.ofNat n0) ≤ x1 then ((some (0 : Int32))) else (zck x1 n0 <| (if (lg_cmp ((zlushr (gL D a0 x1.toNatClampNeg) (v1 &&& (63 : Int32))) &&& (1 : Int64)) (0 : Int64)) = 0 then ((some (0 : Int32))) else ((some (1 : Int32))))))))
theorem s_X2_has {X : zX} {Sh : zSh} {d : Nat} (hst : (zl X).stackTraces = false) (h0 : zSh0 Sh) (hd : 1 ≤ d) {a0 n0 : Nat} {v1 : Int32} (h_a0 : Sh.1[a0]? = some (1, n0)) (hn0 : n0 < 2147483648) {D : zD} : Sd X m_X2_has d [.ref a0, .int v1] (Sh, D) ((oP Sh D) (fn_X2_has a0 n0 v1 D)) := by
  obtain ⟨d, rfl⟩ : ∃ e, d = e + 1 := ⟨d - 1, by omega⟩
  replace hd : 0 ≤ d := by omega
  refine z_body ck_X2_has rfl (Nat.le_of_ble_eq_true rfl) rfl hst ?_
  rw [fn_X2_has]
  show Rn X m_X2_has (d + 1) 0 [(0, .ref a0), (1, .int v1)] [] (Sh, D) _
  refine r_iload_n (pc := 0) 1 d_X2_has_0 rfl rfl ?_
  refine r_bipush (pc := 1) (6 : Int32) d_X2_has_1 rfl ?_
  refine r_ishr (pc := 3) d_X2_has_3 ?_
  refine r_leti (f := (oP Sh D)) (fun x1 => ?_)
  refine r_istore_n (pc := 4) (ls' := [(2, .int x1), (0, .ref a0), (1, .int v1)]) d_X2_has_4 rfl (Nat.le_of_ble_eq_true rfl) rfl ?_
  refine r_aload_n (pc := 5) 1 d_X2_has_5 rfl rfl ?_
  refine r_null (pc := 6) d_X2_has_6 ?_
  refine r_iload_n (pc := 9) 0 d_X2_has_9 rfl rfl ?_
  refine r_if_lt (f := (oP Sh D)) (pc := 10) 38 d_X2_has_10 (by decide) (fun c2 => ?_) (fun c2 => ?_)
  · refine r_iconst (pc := 38) (0 : Int32) d_X2_has_38 rfl ?_
    exact r_zret (pc := 39) rfl (by decide) d_X2_has_39
  · refine r_iload_n (pc := 13) 0 d_X2_has_13 rfl rfl ?_
    refine r_aload_n (pc := 14) 1 d_X2_has_14 rfl rfl ?_
    refine r_alen (pc := 15) h_a0 (by decide) d_X2_has_15 ?_
    refine r_icmp_ge (f := (oP Sh D)) (pc := 16) 38 d_X2_has_16 (by decide) (fun c3 => ?_) (fun c3 => ?_)
    · refine r_iconst (pc := 38) (0 : Int32) d_X2_has_38 rfl ?_
      exact r_zret (pc := 39) rfl (by decide) d_X2_has_39
    · refine r_aload_n (pc := 19) 1 d_X2_has_19 rfl rfl ?_
      refine r_iload_n (pc := 20) 0 d_X2_has_20 rfl rfl ?_
      refine r_ck (f := (oP Sh D)) rfl (fun hc4 => ?_)
      refine q_lald (pc := 21) (j := x1.toNatClampNeg) h_a0 hc4 rfl d_X2_has_21 ?_
      refine r_iload_n (pc := 22) 2 d_X2_has_22 rfl rfl ?_
      refine r_bipush (pc := 23) (63 : Int32) d_X2_has_23 rfl ?_
      refine r_iand (pc := 25) d_X2_has_25 ?_
      refine r_lushr (pc := 26) d_X2_has_26 ?_
      refine r_lconst (pc := 27) (1 : Int64) d_X2_has_27 rfl ?_
      refine r_land (pc := 28) d_X2_has_28 ?_
      refine r_lconst (pc := 29) (0 : Int64) d_X2_has_29 rfl ?_
      refine r_lcmp (pc := 30) d_X2_has_30 ?_
      refine r_if_eq (f := (oP Sh D)) (pc := 31) 38 d_X2_has_31 (by decide) (fun c5 => ?_) (fun c5 => ?_)
      · refine r_iconst (pc := 38) (0 : Int32) d_X2_has_38 rfl ?_
        exact r_zret (pc := 39) rfl (by decide) d_X2_has_39
      · refine r_iconst (pc := 34) (1 : Int32) d_X2_has_34 rfl ?_
        refine r_goto (pc := 35) 39 d_X2_has_35 (by decide) ?_
        exact r_zret (pc := 39) rfl (by decide) d_X2_has_39
/-! CoveredSigns$Codes.put -/
theorem d_X2_put_0 : decode (yB m_X2_put) 0 = .ok (.iload_n 1, 1) := by decide +kernel
theorem d_X2_put_1 : decode (yB m_X2_put) 1 = .ok (.bipush 6, 2) := by decide +kernel
theorem d_X2_put_3 : decode (yB m_X2_put) 3 = .ok (.ishr, 1) := by decide +kernel
theorem d_X2_put_4 : decode (yB m_X2_put) 4 = .ok (.istore_n 2, 1) := by decide +kernel
theorem d_X2_put_5 : decode (yB m_X2_put) 5 = .ok (.aload_n 0, 1) := by decide +kernel
theorem d_X2_put_6 : decode (yB m_X2_put) 6 = .ok (.ifnull 25, 3) := by decide +kernel
theorem d_X2_put_9 : decode (yB m_X2_put) 9 = .ok (.iload_n 2, 1) := by decide +kernel
theorem d_X2_put_10 : decode (yB m_X2_put) 10 = .ok (.ifCond .lt 21, 3) := by decide +kernel
theorem d_X2_put_13 : decode (yB m_X2_put) 13 = .ok (.iload_n 2, 1) := by decide +kernel
theorem d_X2_put_14 : decode (yB m_X2_put) 14 = .ok (.aload_n 0, 1) := by decide +kernel
theorem d_X2_put_15 : decode (yB m_X2_put) 15 = .ok (.arraylength, 1) := by decide +kernel
theorem d_X2_put_16 : decode (yB m_X2_put) 16 = .ok (.if_icmp .ge 15, 3) := by decide +kernel
theorem d_X2_put_19 : decode (yB m_X2_put) 19 = .ok (.aload_n 0, 1) := by decide +kernel
theorem d_X2_put_20 : decode (yB m_X2_put) 20 = .ok (.iload_n 2, 1) := by decide +kernel
theorem d_X2_put_21 : decode (yB m_X2_put) 21 = .ok (.dup2, 1) := by decide +kernel
theorem d_X2_put_22 : decode (yB m_X2_put) 22 = .ok (.laload, 1) := by decide +kernel
theorem d_X2_put_23 : decode (yB m_X2_put) 23 = .ok (.lconst 1, 1) := by decide +kernel
theorem d_X2_put_24 : decode (yB m_X2_put) 24 = .ok (.iload_n 1, 1) := by decide +kernel
theorem d_X2_put_25 : decode (yB m_X2_put) 25 = .ok (.bipush 63, 2) := by decide +kernel
theorem d_X2_put_27 : decode (yB m_X2_put) 27 = .ok (.iand, 1) := by decide +kernel
theorem d_X2_put_28 : decode (yB m_X2_put) 28 = .ok (.lshl, 1) := by decide +kernel
theorem d_X2_put_29 : decode (yB m_X2_put) 29 = .ok (.lor, 1) := by decide +kernel
theorem d_X2_put_30 : decode (yB m_X2_put) 30 = .ok (.lastore, 1) := by decide +kernel
theorem d_X2_put_31 : decode (yB m_X2_put) 31 = .ok (.return_, 1) := by decide +kernel
def fn_X2_put (a0 n0 : Nat) (v1 : Int32) (D : zD) : Option zD := zlet (v1 >>> ((6 : Int32) &&& 31)) fun x1 => (if x1 < 0 then ((some D)) else ((if (Int32.ofNat n0) ≤ x1 then ((some D)) else (zck x1 n0 <| zck x1 n0 <| zlet (sL D a0 x1.toNatClampNeg ((gL D a0 x1.toNatClampNeg) ||| (zlshl (1 : Int64) (v1 &&& (63 : Int32))))) fun D6 => (some D6)))))
theorem s_X2_put {X : zX} {Sh : zSh} {d : Nat} (hst : (zl X).stackTraces = false) (h0 : zSh0 Sh) (hd : 1 ≤ d) {a0 n0 : Nat} {v1 : Int32} (h_a0 : Sh.1[a0]? = some (1, n0)) (hn0 : n0 < 2147483648) {D : zD} : Sd X m_X2_put d [.ref a0, .int v1] (Sh, D) ((oV Sh) (fn_X2_put a0 n0 v1 D)) := by
  obtain ⟨d, rfl⟩ : ∃ e, d = e + 1 := ⟨d - 1, by omega⟩
  replace hd : 0 ≤ d := by omega
  refine z_body ck_X2_put rfl (Nat.le_of_ble_eq_true rfl) rfl hst ?_
  rw [fn_X2_put]
  show Rn X m_X2_put (d + 1) 0 [(0, .ref a0), (1, .int v1)] [] (Sh, D) _
  refine r_iload_n (pc := 0) 1 d_X2_put_0 rfl rfl ?_
  refine r_bipush (pc := 1) (6 : Int32) d_X2_put_1 rfl ?_
  refine r_ishr (pc := 3) d_X2_put_3 ?_
  refine r_leti (f := (oV Sh)) (fun x1 => ?_)
  refine r_istore_n (pc := 4) (ls' := [(2, .int x1), (0, .ref a0), (1, .int v1)]) d_X2_put_4 rfl (Nat.le_of_ble_eq_true rfl) rfl ?_
  refine r_aload_n (pc := 5) 1 d_X2_put_5 rfl rfl ?_
  refine r_null (pc := 6) d_X2_put_6 ?_
  refine r_iload_n (pc := 9) 0 d_X2_put_9 rfl rfl ?_
  refine r_if_lt (f := (oV Sh)) (pc := 10) 31 d_X2_put_10 (by decide) (fun c2 => ?_) (fun c2 => ?_)
  · exact r_vret (pc := 31) rfl d_X2_put_31
  · refine r_iload_n (pc := 13) 0 d_X2_put_13 rfl rfl ?_
    refine r_aload_n (pc := 14) 1 d_X2_put_14 rfl rfl ?_
    refine r_alen (pc := 15) h_a0 (by decide) d_X2_put_15 ?_
    refine r_icmp_ge (f := (oV Sh)) (pc := 16) 31 d_X2_put_16 (by decide) (fun c3 => ?_) (fun c3 => ?_)
    · exact r_vret (pc := 31) rfl d_X2_put_31
    · refine r_aload_n (pc := 19) 1 d_X2_put_19 rfl rfl ?_
      refine r_iload_n (pc := 20) 0 d_X2_put_20 rfl rfl ?_
      refine r_dup2 (pc := 21) d_X2_put_21 rfl rfl ?_
      refine r_ck (f := (oV Sh)) rfl (fun hc4 => ?_)
      refine q_lald (pc := 22) (j := x1.toNatClampNeg) h_a0 hc4 rfl d_X2_put_22 ?_
      refine r_lconst (pc := 23) (1 : Int64) d_X2_put_23 rfl ?_
      refine r_iload_n (pc := 24) 2 d_X2_put_24 rfl rfl ?_
      refine r_bipush (pc := 25) (63 : Int32) d_X2_put_25 rfl ?_
      refine r_iand (pc := 27) d_X2_put_27 ?_
      refine r_lshl (pc := 28) d_X2_put_28 ?_
      refine r_lor (pc := 29) d_X2_put_29 ?_
      refine r_ck (f := (oV Sh)) rfl (fun hc5 => ?_)
      refine q_last (pc := 30) (j := x1.toNatClampNeg) h_a0 hc5 rfl  d_X2_put_30 ?_
      refine r_letD (f := (oV Sh)) (fun D6 => ?_)
      exact r_vret (pc := 31) rfl d_X2_put_31
/-! CoveredSigns$Codes.allBelowAreMixed -/
theorem d_X2_allBelowAreMixed_0 : decode (yB m_X2_allBelowAreMixed) 0 = .ok (.iconst 0, 1) := by decide +kernel
theorem d_X2_allBelowAreMixed_1 : decode (yB m_X2_allBelowAreMixed) 1 = .ok (.istore_n 3, 1) := by decide +kernel
theorem d_X2_allBelowAreMixed_2 : decode (yB m_X2_allBelowAreMixed) 2 = .ok (.iload_n 3, 1) := by decide +kernel
theorem d_X2_allBelowAreMixed_3 : decode (yB m_X2_allBelowAreMixed) 3 = .ok (.iload_n 2, 1) := by decide +kernel
theorem d_X2_allBelowAreMixed_4 : decode (yB m_X2_allBelowAreMixed) 4 = .ok (.if_icmp .ge 43, 3) := by decide +kernel
theorem d_X2_allBelowAreMixed_7 : decode (yB m_X2_allBelowAreMixed) 7 = .ok (.iload_n 1, 1) := by decide +kernel
theorem d_X2_allBelowAreMixed_8 : decode (yB m_X2_allBelowAreMixed) 8 = .ok (.iconst 1, 1) := by decide +kernel
theorem d_X2_allBelowAreMixed_9 : decode (yB m_X2_allBelowAreMixed) 9 = .ok (.iload_n 3, 1) := by decide +kernel
theorem d_X2_allBelowAreMixed_10 : decode (yB m_X2_allBelowAreMixed) 10 = .ok (.ishl, 1) := by decide +kernel
theorem d_X2_allBelowAreMixed_11 : decode (yB m_X2_allBelowAreMixed) 11 = .ok (.iconst (-1), 1) := by decide +kernel
theorem d_X2_allBelowAreMixed_12 : decode (yB m_X2_allBelowAreMixed) 12 = .ok (.ixor, 1) := by decide +kernel
theorem d_X2_allBelowAreMixed_13 : decode (yB m_X2_allBelowAreMixed) 13 = .ok (.iand, 1) := by decide +kernel
theorem d_X2_allBelowAreMixed_14 : decode (yB m_X2_allBelowAreMixed) 14 = .ok (.istore 4, 2) := by decide +kernel
theorem d_X2_allBelowAreMixed_16 : decode (yB m_X2_allBelowAreMixed) 16 = .ok (.iload 4, 2) := by decide +kernel
theorem d_X2_allBelowAreMixed_18 : decode (yB m_X2_allBelowAreMixed) 18 = .ok (.iload_n 1, 1) := by decide +kernel
theorem d_X2_allBelowAreMixed_19 : decode (yB m_X2_allBelowAreMixed) 19 = .ok (.if_icmp .eq 22, 3) := by decide +kernel
theorem d_X2_allBelowAreMixed_22 : decode (yB m_X2_allBelowAreMixed) 22 = .ok (.iload 4, 2) := by decide +kernel
theorem d_X2_allBelowAreMixed_24 : decode (yB m_X2_allBelowAreMixed) 24 = .ok (.ifCond .eq 17, 3) := by decide +kernel
theorem d_X2_allBelowAreMixed_27 : decode (yB m_X2_allBelowAreMixed) 27 = .ok (.aload_n 0, 1) := by decide +kernel
theorem d_X2_allBelowAreMixed_28 : decode (yB m_X2_allBelowAreMixed) 28 = .ok (.getfield 11, 3) := by decide +kernel
theorem d_X2_allBelowAreMixed_31 : decode (yB m_X2_allBelowAreMixed) 31 = .ok (.iload 4, 2) := by decide +kernel
theorem d_X2_allBelowAreMixed_33 : decode (yB m_X2_allBelowAreMixed) 33 = .ok (.invokestatic 45, 3) := by decide +kernel
theorem d_X2_allBelowAreMixed_36 : decode (yB m_X2_allBelowAreMixed) 36 = .ok (.ifCond .ne 5, 3) := by decide +kernel
theorem d_X2_allBelowAreMixed_39 : decode (yB m_X2_allBelowAreMixed) 39 = .ok (.iconst 0, 1) := by decide +kernel
theorem d_X2_allBelowAreMixed_40 : decode (yB m_X2_allBelowAreMixed) 40 = .ok (.ireturn, 1) := by decide +kernel
theorem d_X2_allBelowAreMixed_41 : decode (yB m_X2_allBelowAreMixed) 41 = .ok (.iinc 3 1, 3) := by decide +kernel
theorem d_X2_allBelowAreMixed_44 : decode (yB m_X2_allBelowAreMixed) 44 = .ok (.goto (-42), 3) := by decide +kernel
theorem d_X2_allBelowAreMixed_47 : decode (yB m_X2_allBelowAreMixed) 47 = .ok (.iconst 1, 1) := by decide +kernel
theorem d_X2_allBelowAreMixed_48 : decode (yB m_X2_allBelowAreMixed) 48 = .ok (.ireturn, 1) := by decide +kernel
def fn_X2_allBelowAreMixed_2 (v1 : Int32) (v2 : Int32) (D : zD) : Nat → Int32 → Option Int32
  | 0, _ => none
  | n + 1, v3 => (if v2 ≤ v3 then ((some (1 : Int32))) else (zlet (v1 &&& (((1 : Int32) <<< (v3 &&& 31)) ^^^ (-1 : Int32))) fun x2 => (if x2 = v1 then (((fn_X2_allBelowAreMixed_2 v1 v2 D n) (v3 + (1 : Int32)))) else ((if x2 = 0 then (((fn_X2_allBelowAreMixed_2 v1 v2 D n) (v3 + (1 : Int32)))) else ((fn_X2_has 93 64 x2 D).bind fun x5 => (if x5 = 0 then ((some (0 : Int32))) else (((fn_X2_allBelowAreMixed_2 v1 v2 D n) (v3 + (1 : Int32)))))))))))
def fn_X2_allBelowAreMixed (v1 : Int32) (v2 : Int32) (D : zD) : Option Int32 := (fn_X2_allBelowAreMixed_2 v1 v2 D zFU (0 : Int32))
theorem s_X2_allBelowAreMixed_2 {X : zX} {Sh : zSh} {d : Nat} (hst : (zl X).stackTraces = false) (h0 : zSh0 Sh) (hd : 1 ≤ d) {v1 : Int32} {v2 : Int32} (D : zD) : ∀ (n : Nat) (v3 : Int32) , Rn X m_X2_allBelowAreMixed (d + 1) 2 [(0, .ref 92), (1, .int v1), (2, .int v2), (3, .int v3)] [] (Sh, D) ((oP Sh D) (fn_X2_allBelowAreMixed_2 v1 v2 D n v3)) := by
  intro n
  induction n with
  | zero => intro v3; exact Rn_none rfl
  | succ n hk2 =>
    intro v3
    rw [fn_X2_allBelowAreMixed_2]
    refine r_iload_n (pc := 2) 3 d_X2_allBelowAreMixed_2 rfl rfl ?_
    refine r_iload_n (pc := 3) 2 d_X2_allBelowAreMixed_3 rfl rfl ?_
    refine r_icmp_ge (f := (oP Sh D)) (pc := 4) 47 d_X2_allBelowAreMixed_4 (by decide) (fun c1 => ?_) (fun c1 => ?_)
    · refine r_iconst (pc := 47) (1 : Int32) d_X2_allBelowAreMixed_47 rfl ?_
      exact r_zret (pc := 48) rfl (by decide) d_X2_allBelowAreMixed_48
    · refine r_iload_n (pc := 7) 1 d_X2_allBelowAreMixed_7 rfl rfl ?_
      refine r_iconst (pc := 8) (1 : Int32) d_X2_allBelowAreMixed_8 rfl ?_
      refine r_iload_n (pc := 9) 3 d_X2_allBelowAreMixed_9 rfl rfl ?_
      refine r_ishl (pc := 10) d_X2_allBelowAreMixed_10 ?_
      refine r_iconst (pc := 11) (-1 : Int32) d_X2_allBelowAreMixed_11 rfl ?_
      refine r_ixor (pc := 12) d_X2_allBelowAreMixed_12 ?_
      refine r_iand (pc := 13) d_X2_allBelowAreMixed_13 ?_
      refine r_leti (f := (oP Sh D)) (fun x2 => ?_)
      refine r_istore (pc := 14) (ls' := [(4, .int x2), (0, .ref 92), (1, .int v1), (2, .int v2), (3, .int v3)]) d_X2_allBelowAreMixed_14 (Nat.le_of_ble_eq_true rfl) rfl ?_
      refine r_iload (pc := 16) 0 d_X2_allBelowAreMixed_16 rfl ?_
      refine r_iload_n (pc := 18) 2 d_X2_allBelowAreMixed_18 rfl rfl ?_
      refine r_icmp_eq (f := (oP Sh D)) (pc := 19) 41 d_X2_allBelowAreMixed_19 (by decide) (fun c3 => ?_) (fun c3 => ?_)
      · refine r_iinc (pc := 41) ((v3 + (1 : Int32))) 4 (ls' := [(3, .int (v3 + (1 : Int32))), (4, .int x2), (0, .ref 92), (1, .int v1), (2, .int v2)]) d_X2_allBelowAreMixed_41 rfl rfl (Nat.le_of_ble_eq_true rfl) rfl ?_
        refine r_goto (pc := 44) 2 d_X2_allBelowAreMixed_44 (by decide) ?_
        refine r_pick [2, 3, 4, 0] (ls' := [(0, .ref 92), (1, .int v1), (2, .int v2), (3, .int (v3 + (1 : Int32)))]) rfl ?_
        exact hk2 (v3 + (1 : Int32)) 
      · refine r_iload (pc := 22) 0 d_X2_allBelowAreMixed_22 rfl ?_
        refine r_if_eq (f := (oP Sh D)) (pc := 24) 41 d_X2_allBelowAreMixed_24 (by decide) (fun c4 => ?_) (fun c4 => ?_)
        · refine r_iinc (pc := 41) ((v3 + (1 : Int32))) 4 (ls' := [(3, .int (v3 + (1 : Int32))), (4, .int x2), (0, .ref 92), (1, .int v1), (2, .int v2)]) d_X2_allBelowAreMixed_41 rfl rfl (Nat.le_of_ble_eq_true rfl) rfl ?_
          refine r_goto (pc := 44) 2 d_X2_allBelowAreMixed_44 (by decide) ?_
          refine r_pick [2, 3, 4, 0] (ls' := [(0, .ref 92), (1, .int v1), (2, .int v2), (3, .int (v3 + (1 : Int32)))]) rfl ?_
          exact hk2 (v3 + (1 : Int32)) 
        · refine r_aload_n (pc := 27) 1 d_X2_allBelowAreMixed_27 rfl rfl ?_
          refine r_getR (pc := 28) g_X2_11 (K_92 h0) rfl (R_92_0 h0) d_X2_allBelowAreMixed_28 ?_
          refine r_iload (pc := 31) 0 d_X2_allBelowAreMixed_31 rfl ?_
          refine q_cP (f := (oP Sh D)) (av := [.ref 93, .int x2]) (st := []) (z_runS ck_X2_has rfl ml_X2_45 cs_X2_has rfl (Nat.le_of_ble_eq_true rfl) d_X2_allBelowAreMixed_33) (s_X2_has hst h0 (by omega) (K_93 h0) (by decide)) kp_P (fun x5 _ => ?_)
          refine r_if_ne (f := (oP Sh D)) (pc := 36) 41 d_X2_allBelowAreMixed_36 (by decide) (fun c6 => ?_) (fun c6 => ?_)
          · refine r_iinc (pc := 41) ((v3 + (1 : Int32))) 4 (ls' := [(3, .int (v3 + (1 : Int32))), (4, .int x2), (0, .ref 92), (1, .int v1), (2, .int v2)]) d_X2_allBelowAreMixed_41 rfl rfl (Nat.le_of_ble_eq_true rfl) rfl ?_
            refine r_goto (pc := 44) 2 d_X2_allBelowAreMixed_44 (by decide) ?_
            refine r_pick [2, 3, 4, 0] (ls' := [(0, .ref 92), (1, .int v1), (2, .int v2), (3, .int (v3 + (1 : Int32)))]) rfl ?_
            exact hk2 (v3 + (1 : Int32)) 
          · refine r_iconst (pc := 39) (0 : Int32) d_X2_allBelowAreMixed_39 rfl ?_
            exact r_zret (pc := 40) rfl (by decide) d_X2_allBelowAreMixed_40
theorem s_X2_allBelowAreMixed {X : zX} {Sh : zSh} {d : Nat} (hst : (zl X).stackTraces = false) (h0 : zSh0 Sh) (hd : 2 ≤ d) {v1 : Int32} {v2 : Int32} {D : zD} : Sd X m_X2_allBelowAreMixed d [.ref 92, .int v1, .int v2] (Sh, D) ((oP Sh D) (fn_X2_allBelowAreMixed v1 v2 D)) := by
  obtain ⟨d, rfl⟩ : ∃ e, d = e + 1 := ⟨d - 1, by omega⟩
  replace hd : 1 ≤ d := by omega
  refine z_body ck_X2_allBelowAreMixed rfl (Nat.le_of_ble_eq_true rfl) rfl hst ?_
  rw [fn_X2_allBelowAreMixed]
  show Rn X m_X2_allBelowAreMixed (d + 1) 0 [(0, .ref 92), (1, .int v1), (2, .int v2)] [] (Sh, D) _
  refine r_iconst (pc := 0) (0 : Int32) d_X2_allBelowAreMixed_0 rfl ?_
  refine r_istore_n (pc := 1) (ls' := [(3, .int (0 : Int32)), (0, .ref 92), (1, .int v1), (2, .int v2)]) d_X2_allBelowAreMixed_1 rfl (Nat.le_of_ble_eq_true rfl) rfl ?_
  refine r_pick [1, 2, 3, 0] (ls' := [(0, .ref 92), (1, .int v1), (2, .int v2), (3, .int (0 : Int32))]) rfl ?_
  exact s_X2_allBelowAreMixed_2 hst h0 hd D zFU  (0 : Int32)
/-! CoveredSigns$Codes.gather -/
theorem d_X2_gather_0 : decode (yB m_X2_gather) 0 = .ok (.aload_n 0, 1) := by decide +kernel
theorem d_X2_gather_1 : decode (yB m_X2_gather) 1 = .ok (.getfield 11, 3) := by decide +kernel
theorem d_X2_gather_4 : decode (yB m_X2_gather) 4 = .ok (.lconst 0, 1) := by decide +kernel
theorem d_X2_gather_5 : decode (yB m_X2_gather) 5 = .ok (.invokestatic 25, 3) := by decide +kernel
theorem d_X2_gather_8 : decode (yB m_X2_gather) 8 = .ok (.iconst 1, 1) := by decide +kernel
theorem d_X2_gather_9 : decode (yB m_X2_gather) 9 = .ok (.istore 4, 2) := by decide +kernel
theorem d_X2_gather_11 : decode (yB m_X2_gather) 11 = .ok (.iload 4, 2) := by decide +kernel
theorem d_X2_gather_13 : decode (yB m_X2_gather) 13 = .ok (.iconst 1, 1) := by decide +kernel
theorem d_X2_gather_14 : decode (yB m_X2_gather) 14 = .ok (.iload_n 2, 1) := by decide +kernel
theorem d_X2_gather_15 : decode (yB m_X2_gather) 15 = .ok (.ishl, 1) := by decide +kernel
theorem d_X2_gather_16 : decode (yB m_X2_gather) 16 = .ok (.if_icmp .ge 39, 3) := by decide +kernel
theorem d_X2_gather_19 : decode (yB m_X2_gather) 19 = .ok (.aload_n 0, 1) := by decide +kernel
theorem d_X2_gather_20 : decode (yB m_X2_gather) 20 = .ok (.iload 4, 2) := by decide +kernel
theorem d_X2_gather_22 : decode (yB m_X2_gather) 22 = .ok (.iload_n 2, 1) := by decide +kernel
theorem d_X2_gather_23 : decode (yB m_X2_gather) 23 = .ok (.invokevirtual 31, 3) := by decide +kernel
theorem d_X2_gather_26 : decode (yB m_X2_gather) 26 = .ok (.ifCond .eq 23, 3) := by decide +kernel
theorem d_X2_gather_29 : decode (yB m_X2_gather) 29 = .ok (.aload_n 1, 1) := by decide +kernel
theorem d_X2_gather_30 : decode (yB m_X2_gather) 30 = .ok (.iload 4, 2) := by decide +kernel
theorem d_X2_gather_32 : decode (yB m_X2_gather) 32 = .ok (.iload_n 3, 1) := by decide +kernel
theorem d_X2_gather_33 : decode (yB m_X2_gather) 33 = .ok (.invokevirtual 35, 3) := by decide +kernel
theorem d_X2_gather_36 : decode (yB m_X2_gather) 36 = .ok (.iconst (-1), 1) := by decide +kernel
theorem d_X2_gather_37 : decode (yB m_X2_gather) 37 = .ok (.if_icmp .eq 12, 3) := by decide +kernel
theorem d_X2_gather_40 : decode (yB m_X2_gather) 40 = .ok (.aload_n 0, 1) := by decide +kernel
theorem d_X2_gather_41 : decode (yB m_X2_gather) 41 = .ok (.getfield 11, 3) := by decide +kernel
theorem d_X2_gather_44 : decode (yB m_X2_gather) 44 = .ok (.iload 4, 2) := by decide +kernel
theorem d_X2_gather_46 : decode (yB m_X2_gather) 46 = .ok (.invokestatic 41, 3) := by decide +kernel
theorem d_X2_gather_49 : decode (yB m_X2_gather) 49 = .ok (.iinc 4 1, 3) := by decide +kernel
theorem d_X2_gather_52 : decode (yB m_X2_gather) 52 = .ok (.goto (-41), 3) := by decide +kernel
theorem d_X2_gather_55 : decode (yB m_X2_gather) 55 = .ok (.return_, 1) := by decide +kernel
def fn_X2_gather_11 (a1 : Nat) (v2 : Int32) (v3 : Int32) : Nat → Int32 → zD → Option zD
  | 0, _, _ => none
  | n + 1, v4, D => (if ((1 : Int32) <<< (v2 &&& 31)) ≤ v4 then ((some D)) else ((fn_X2_allBelowAreMixed v4 v2 D).bind fun x3 => (if x3 = 0 then (((fn_X2_gather_11 a1 v2 v3 n) (v4 + (1 : Int32)) D)) else ((fn_X3_firstMixing a1 v4 v3 D).bind fun x5 => (if x5 = (-1 : Int32) then (((fn_X2_gather_11 a1 v2 v3 n) (v4 + (1 : Int32)) D)) else ((fn_X2_put 93 64 v4 D).bind fun D7 => ((fn_X2_gather_11 a1 v2 v3 n) (v4 + (1 : Int32)) D7)))))))
def fn_X2_gather (a1 : Nat) (v2 : Int32) (v3 : Int32) (D : zD) : Option zD := (fn_JA_fill 93 64 (0 : Int64) D).bind fun D1 => (fn_X2_gather_11 a1 v2 v3 zFU (1 : Int32) D1)
theorem s_X2_gather_11 {X : zX} {Sh : zSh} {d : Nat} (hst : (zl X).stackTraces = false) (h0 : zSh0 Sh) (hd : 2 ≤ d) {a1 : Nat} {v2 : Int32} {v3 : Int32} (h_a1 : a1 ∈ zI_3) : ∀ (n : Nat) (v4 : Int32) (D : zD) , Rn X m_X2_gather (d + 1) 11 [(0, .ref 92), (1, .ref a1), (2, .int v2), (3, .int v3), (4, .int v4)] [] (Sh, D) ((oV Sh) (fn_X2_gather_11 a1 v2 v3 n v4 D)) := by
  intro n
  induction n with
  | zero => intro v4 D; exact Rn_none rfl
  | succ n hk11 =>
    intro v4 D
    rw [fn_X2_gather_11]
    refine r_iload (pc := 11) 4 d_X2_gather_11 rfl ?_
    refine r_iconst (pc := 13) (1 : Int32) d_X2_gather_13 rfl ?_
    refine r_iload_n (pc := 14) 2 d_X2_gather_14 rfl rfl ?_
    refine r_ishl (pc := 15) d_X2_gather_15 ?_
    refine r_icmp_ge (f := (oV Sh)) (pc := 16) 55 d_X2_gather_16 (by decide) (fun c2 => ?_) (fun c2 => ?_)
    · exact r_vret (pc := 55) rfl d_X2_gather_55
    · refine r_aload_n (pc := 19) 0 d_X2_gather_19 rfl rfl ?_
      refine r_iload (pc := 20) 4 d_X2_gather_20 rfl ?_
      refine r_iload_n (pc := 22) 2 d_X2_gather_22 rfl rfl ?_
      refine q_cP (f := (oV Sh)) (av := [.ref 92, .int v4, .int v2]) (st := []) (z_runV ck_X2_allBelowAreMixed rfl ml_X2_31 ci_X2_allBelowAreMixed cv_X2_allBelowAreMixed (K_92 h0) (ci := 2) rfl rfl (Nat.le_of_ble_eq_true rfl) d_X2_gather_23) (s_X2_allBelowAreMixed hst h0 (by omega)) kp_V (fun x3 _ => ?_)
      refine r_if_eq (f := (oV Sh)) (pc := 26) 49 d_X2_gather_26 (by decide) (fun c4 => ?_) (fun c4 => ?_)
      · refine r_iinc (pc := 49) ((v4 + (1 : Int32))) 4 (ls' := [(4, .int (v4 + (1 : Int32))), (0, .ref 92), (1, .ref a1), (2, .int v2), (3, .int v3)]) d_X2_gather_49 rfl rfl (Nat.le_of_ble_eq_true rfl) rfl ?_
        refine r_goto (pc := 52) 11 d_X2_gather_52 (by decide) ?_
        refine r_pick [1, 2, 3, 4, 0] (ls' := [(0, .ref 92), (1, .ref a1), (2, .int v2), (3, .int v3), (4, .int (v4 + (1 : Int32)))]) rfl ?_
        exact hk11 (v4 + (1 : Int32)) D 
      · refine r_aload_n (pc := 29) 1 d_X2_gather_29 rfl rfl ?_
        refine r_iload (pc := 30) 4 d_X2_gather_30 rfl ?_
        refine r_iload_n (pc := 32) 3 d_X2_gather_32 rfl rfl ?_
        refine q_cP (f := (oV Sh)) (av := [.ref a1, .int v4, .int v3]) (st := []) (z_runV ck_X3_firstMixing rfl ml_X2_35 ci_X3_firstMixing cv_X3_firstMixing (LK_3 h0 h_a1) (ci := 3) rfl rfl (Nat.le_of_ble_eq_true rfl) d_X2_gather_33) (s_X3_firstMixing hst h0 (by omega) h_a1) kp_V (fun x5 _ => ?_)
        refine r_iconst (pc := 36) (-1 : Int32) d_X2_gather_36 rfl ?_
        refine r_icmp_eq (f := (oV Sh)) (pc := 37) 49 d_X2_gather_37 (by decide) (fun c6 => ?_) (fun c6 => ?_)
        · refine r_iinc (pc := 49) ((v4 + (1 : Int32))) 4 (ls' := [(4, .int (v4 + (1 : Int32))), (0, .ref 92), (1, .ref a1), (2, .int v2), (3, .int v3)]) d_X2_gather_49 rfl rfl (Nat.le_of_ble_eq_true rfl) rfl ?_
          refine r_goto (pc := 52) 11 d_X2_gather_52 (by decide) ?_
          refine r_pick [1, 2, 3, 4, 0] (ls' := [(0, .ref 92), (1, .ref a1), (2, .int v2), (3, .int v3), (4, .int (v4 + (1 : Int32)))]) rfl ?_
          exact hk11 (v4 + (1 : Int32)) D 
        · refine r_aload_n (pc := 40) 0 d_X2_gather_40 rfl rfl ?_
          refine r_getR (pc := 41) g_X2_11 (K_92 h0) rfl (R_92_0 h0) d_X2_gather_41 ?_
          refine r_iload (pc := 44) 4 d_X2_gather_44 rfl ?_
          refine q_cV (f := (oV Sh)) (av := [.ref 93, .int v4]) (st := []) (z_runS ck_X2_put rfl ml_X2_41 cs_X2_put rfl (Nat.le_of_ble_eq_true rfl) d_X2_gather_46) (s_X2_put hst h0 (by omega) (K_93 h0) (by decide)) kp_V (fun D7 _ => ?_)
          refine r_iinc (pc := 49) ((v4 + (1 : Int32))) 4 (ls' := [(4, .int (v4 + (1 : Int32))), (0, .ref 92), (1, .ref a1), (2, .int v2), (3, .int v3)]) d_X2_gather_49 rfl rfl (Nat.le_of_ble_eq_true rfl) rfl ?_
          refine r_goto (pc := 52) 11 d_X2_gather_52 (by decide) ?_
          refine r_pick [1, 2, 3, 4, 0] (ls' := [(0, .ref 92), (1, .ref a1), (2, .int v2), (3, .int v3), (4, .int (v4 + (1 : Int32)))]) rfl ?_
          exact hk11 (v4 + (1 : Int32)) D7 
theorem s_X2_gather {X : zX} {Sh : zSh} {d : Nat} (hst : (zl X).stackTraces = false) (h0 : zSh0 Sh) (hd : 3 ≤ d) {a1 : Nat} {v2 : Int32} {v3 : Int32} (h_a1 : a1 ∈ zI_3) {D : zD} : Sd X m_X2_gather d [.ref 92, .ref a1, .int v2, .int v3] (Sh, D) ((oV Sh) (fn_X2_gather a1 v2 v3 D)) := by
  obtain ⟨d, rfl⟩ : ∃ e, d = e + 1 := ⟨d - 1, by omega⟩
  replace hd : 2 ≤ d := by omega
  refine z_body ck_X2_gather rfl (Nat.le_of_ble_eq_true rfl) rfl hst ?_
  rw [fn_X2_gather]
  show Rn X m_X2_gather (d + 1) 0 [(0, .ref 92), (1, .ref a1), (2, .int v2), (3, .int v3)] [] (Sh, D) _
  refine r_aload_n (pc := 0) 0 d_X2_gather_0 rfl rfl ?_
  refine r_getR (pc := 1) g_X2_11 (K_92 h0) rfl (R_92_0 h0) d_X2_gather_1 ?_
  refine r_lconst (pc := 4) (0 : Int64) d_X2_gather_4 rfl ?_
  refine q_cV (f := (oV Sh)) (av := [.ref 93, .long (0 : Int64)]) (st := []) (z_runS ck_JA_fill rfl ml_X2_25 cs_JA_fill rfl (Nat.le_of_ble_eq_true rfl) d_X2_gather_5) (s_JA_fill hst h0 (by omega) (K_93 h0) (by decide)) kp_V (fun D1 _ => ?_)
  refine r_iconst (pc := 8) (1 : Int32) d_X2_gather_8 rfl ?_
  refine r_istore (pc := 9) (ls' := [(4, .int (1 : Int32)), (0, .ref 92), (1, .ref a1), (2, .int v2), (3, .int v3)]) d_X2_gather_9 (Nat.le_of_ble_eq_true rfl) rfl ?_
  refine r_pick [1, 2, 3, 4, 0] (ls' := [(0, .ref 92), (1, .ref a1), (2, .int v2), (3, .int v3), (4, .int (1 : Int32))]) rfl ?_
  exact s_X2_gather_11 hst h0 hd h_a1 zFU  (1 : Int32) D1
/-! CoveredSigns$Codes.blockFrom -/
theorem d_X2_blockFrom_0 : decode (yB m_X2_blockFrom) 0 = .ok (.iconst 0, 1) := by decide +kernel
theorem d_X2_blockFrom_1 : decode (yB m_X2_blockFrom) 1 = .ok (.istore_n 2, 1) := by decide +kernel
theorem d_X2_blockFrom_2 : decode (yB m_X2_blockFrom) 2 = .ok (.iload_n 2, 1) := by decide +kernel
theorem d_X2_blockFrom_3 : decode (yB m_X2_blockFrom) 3 = .ok (.bipush 64, 2) := by decide +kernel
theorem d_X2_blockFrom_5 : decode (yB m_X2_blockFrom) 5 = .ok (.if_icmp .ge 64, 3) := by decide +kernel
theorem d_X2_blockFrom_8 : decode (yB m_X2_blockFrom) 8 = .ok (.iconst 0, 1) := by decide +kernel
theorem d_X2_blockFrom_9 : decode (yB m_X2_blockFrom) 9 = .ok (.istore_n 3, 1) := by decide +kernel
theorem d_X2_blockFrom_10 : decode (yB m_X2_blockFrom) 10 = .ok (.iload_n 3, 1) := by decide +kernel
theorem d_X2_blockFrom_11 : decode (yB m_X2_blockFrom) 11 = .ok (.bipush 64, 2) := by decide +kernel
theorem d_X2_blockFrom_13 : decode (yB m_X2_blockFrom) 13 = .ok (.if_icmp .ge 50, 3) := by decide +kernel
theorem d_X2_blockFrom_16 : decode (yB m_X2_blockFrom) 16 = .ok (.aload_n 0, 1) := by decide +kernel
theorem d_X2_blockFrom_17 : decode (yB m_X2_blockFrom) 17 = .ok (.getfield 11, 3) := by decide +kernel
theorem d_X2_blockFrom_20 : decode (yB m_X2_blockFrom) 20 = .ok (.iload_n 2, 1) := by decide +kernel
theorem d_X2_blockFrom_21 : decode (yB m_X2_blockFrom) 21 = .ok (.laload, 1) := by decide +kernel
theorem d_X2_blockFrom_22 : decode (yB m_X2_blockFrom) 22 = .ok (.lconst 0, 1) := by decide +kernel
theorem d_X2_blockFrom_23 : decode (yB m_X2_blockFrom) 23 = .ok (.lcmp, 1) := by decide +kernel
theorem d_X2_blockFrom_24 : decode (yB m_X2_blockFrom) 24 = .ok (.ifCond .eq 39, 3) := by decide +kernel
theorem d_X2_blockFrom_27 : decode (yB m_X2_blockFrom) 27 = .ok (.aload_n 0, 1) := by decide +kernel
theorem d_X2_blockFrom_28 : decode (yB m_X2_blockFrom) 28 = .ok (.getfield 11, 3) := by decide +kernel
theorem d_X2_blockFrom_31 : decode (yB m_X2_blockFrom) 31 = .ok (.iload_n 2, 1) := by decide +kernel
theorem d_X2_blockFrom_32 : decode (yB m_X2_blockFrom) 32 = .ok (.laload, 1) := by decide +kernel
theorem d_X2_blockFrom_33 : decode (yB m_X2_blockFrom) 33 = .ok (.iload_n 3, 1) := by decide +kernel
theorem d_X2_blockFrom_34 : decode (yB m_X2_blockFrom) 34 = .ok (.lushr, 1) := by decide +kernel
theorem d_X2_blockFrom_35 : decode (yB m_X2_blockFrom) 35 = .ok (.lconst 1, 1) := by decide +kernel
theorem d_X2_blockFrom_36 : decode (yB m_X2_blockFrom) 36 = .ok (.land, 1) := by decide +kernel
theorem d_X2_blockFrom_37 : decode (yB m_X2_blockFrom) 37 = .ok (.lconst 0, 1) := by decide +kernel
theorem d_X2_blockFrom_38 : decode (yB m_X2_blockFrom) 38 = .ok (.lcmp, 1) := by decide +kernel
theorem d_X2_blockFrom_39 : decode (yB m_X2_blockFrom) 39 = .ok (.ifCond .eq 18, 3) := by decide +kernel
theorem d_X2_blockFrom_42 : decode (yB m_X2_blockFrom) 42 = .ok (.aload_n 0, 1) := by decide +kernel
theorem d_X2_blockFrom_43 : decode (yB m_X2_blockFrom) 43 = .ok (.getfield 15, 3) := by decide +kernel
theorem d_X2_blockFrom_46 : decode (yB m_X2_blockFrom) 46 = .ok (.iload_n 1, 1) := by decide +kernel
theorem d_X2_blockFrom_47 : decode (yB m_X2_blockFrom) 47 = .ok (.bipush 64, 2) := by decide +kernel
theorem d_X2_blockFrom_49 : decode (yB m_X2_blockFrom) 49 = .ok (.iload_n 2, 1) := by decide +kernel
theorem d_X2_blockFrom_50 : decode (yB m_X2_blockFrom) 50 = .ok (.imul, 1) := by decide +kernel
theorem d_X2_blockFrom_51 : decode (yB m_X2_blockFrom) 51 = .ok (.iload_n 3, 1) := by decide +kernel
theorem d_X2_blockFrom_52 : decode (yB m_X2_blockFrom) 52 = .ok (.iadd, 1) := by decide +kernel
theorem d_X2_blockFrom_53 : decode (yB m_X2_blockFrom) 53 = .ok (.ixor, 1) := by decide +kernel
theorem d_X2_blockFrom_54 : decode (yB m_X2_blockFrom) 54 = .ok (.invokestatic 41, 3) := by decide +kernel
theorem d_X2_blockFrom_57 : decode (yB m_X2_blockFrom) 57 = .ok (.iinc 3 1, 3) := by decide +kernel
theorem d_X2_blockFrom_60 : decode (yB m_X2_blockFrom) 60 = .ok (.goto (-50), 3) := by decide +kernel
theorem d_X2_blockFrom_63 : decode (yB m_X2_blockFrom) 63 = .ok (.iinc 2 1, 3) := by decide +kernel
theorem d_X2_blockFrom_66 : decode (yB m_X2_blockFrom) 66 = .ok (.goto (-64), 3) := by decide +kernel
theorem d_X2_blockFrom_69 : decode (yB m_X2_blockFrom) 69 = .ok (.return_, 1) := by decide +kernel
def fn_X2_blockFrom_10 (v1 : Int32) (k2 : Int32 → zD → Option zD) : Nat → Int32 → Int32 → zD → Option zD
  | 0, _, _, _ => none
  | n + 1, v2, v3, D => (if (64 : Int32) ≤ v3 then ((k2 (v2 + (1 : Int32)) D)) else (zck v2 64 <| (if (lg_cmp (gL D 93 v2.toNatClampNeg) (0 : Int64)) = 0 then ((k2 (v2 + (1 : Int32)) D)) else (zck v2 64 <| (if (lg_cmp ((zlushr (gL D 93 v2.toNatClampNeg) v3) &&& (1 : Int64)) (0 : Int64)) = 0 then (((fn_X2_blockFrom_10 v1 k2 n) v2 (v3 + (1 : Int32)) D)) else ((fn_X2_put 94 64 (v1 ^^^ (((64 : Int32) * v2) + v3)) D).bind fun D7 => ((fn_X2_blockFrom_10 v1 k2 n) v2 (v3 + (1 : Int32)) D7)))))))
def fn_X2_blockFrom_2 (v1 : Int32) : Nat → Int32 → zD → Option zD
  | 0, _, _ => none
  | n + 1, v2, D => (if (64 : Int32) ≤ v2 then ((some D)) else ((fn_X2_blockFrom_10 v1 (fn_X2_blockFrom_2 v1 n) zFU v2 (0 : Int32) D)))
def fn_X2_blockFrom (v1 : Int32) (D : zD) : Option zD := (fn_X2_blockFrom_2 v1 zFU (0 : Int32) D)
theorem s_X2_blockFrom_10 {X : zX} {Sh : zSh} {d : Nat} (hst : (zl X).stackTraces = false) (h0 : zSh0 Sh) (hd : 1 ≤ d) {v1 : Int32} (k2 : Int32 → zD → Option zD) (hk2 : ∀ (v2 : Int32) (D : zD) , Rn X m_X2_blockFrom (d + 1) 2 [(0, .ref 92), (1, .int v1), (2, .int v2)] [] (Sh, D) ((oV Sh) (k2 v2 D))) : ∀ (n : Nat) (v2 : Int32) (v3 : Int32) (D : zD) , Rn X m_X2_blockFrom (d + 1) 10 [(0, .ref 92), (1, .int v1), (2, .int v2), (3, .int v3)] [] (Sh, D) ((oV Sh) (fn_X2_blockFrom_10 v1 k2 n v2 v3 D)) := by
  intro n
  induction n with
  | zero => intro v2 v3 D; exact Rn_none rfl
  | succ n hk10 =>
    intro v2 v3 D
    rw [fn_X2_blockFrom_10]
    refine r_iload_n (pc := 10) 3 d_X2_blockFrom_10 rfl rfl ?_
    refine r_bipush (pc := 11) (64 : Int32) d_X2_blockFrom_11 rfl ?_
    refine r_icmp_ge (f := (oV Sh)) (pc := 13) 63 d_X2_blockFrom_13 (by decide) (fun c2 => ?_) (fun c2 => ?_)
    · refine r_iinc (pc := 63) ((v2 + (1 : Int32))) 2 (ls' := [(2, .int (v2 + (1 : Int32))), (0, .ref 92), (1, .int v1), (3, .int v3)]) d_X2_blockFrom_63 rfl rfl (Nat.le_of_ble_eq_true rfl) rfl ?_
      refine r_goto (pc := 66) 2 d_X2_blockFrom_66 (by decide) ?_
      refine r_pick [1, 2, 0] (ls' := [(0, .ref 92), (1, .int v1), (2, .int (v2 + (1 : Int32)))]) rfl ?_
      exact hk2 (v2 + (1 : Int32)) D 
    · refine r_aload_n (pc := 16) 0 d_X2_blockFrom_16 rfl rfl ?_
      refine r_getR (pc := 17) g_X2_11 (K_92 h0) rfl (R_92_0 h0) d_X2_blockFrom_17 ?_
      refine r_iload_n (pc := 20) 2 d_X2_blockFrom_20 rfl rfl ?_
      refine r_ck (f := (oV Sh)) rfl (fun hc3 => ?_)
      refine q_lald (pc := 21) (j := v2.toNatClampNeg) (K_93 h0) hc3 rfl d_X2_blockFrom_21 ?_
      refine r_lconst (pc := 22) (0 : Int64) d_X2_blockFrom_22 rfl ?_
      refine r_lcmp (pc := 23) d_X2_blockFrom_23 ?_
      refine r_if_eq (f := (oV Sh)) (pc := 24) 63 d_X2_blockFrom_24 (by decide) (fun c4 => ?_) (fun c4 => ?_)
      · refine r_iinc (pc := 63) ((v2 + (1 : Int32))) 2 (ls' := [(2, .int (v2 + (1 : Int32))), (0, .ref 92), (1, .int v1), (3, .int v3)]) d_X2_blockFrom_63 rfl rfl (Nat.le_of_ble_eq_true rfl) rfl ?_
        refine r_goto (pc := 66) 2 d_X2_blockFrom_66 (by decide) ?_
        refine r_pick [1, 2, 0] (ls' := [(0, .ref 92), (1, .int v1), (2, .int (v2 + (1 : Int32)))]) rfl ?_
        exact hk2 (v2 + (1 : Int32)) D 
      · refine r_aload_n (pc := 27) 0 d_X2_blockFrom_27 rfl rfl ?_
        refine r_getR (pc := 28) g_X2_11 (K_92 h0) rfl (R_92_0 h0) d_X2_blockFrom_28 ?_
        refine r_iload_n (pc := 31) 2 d_X2_blockFrom_31 rfl rfl ?_
        refine r_ck (f := (oV Sh)) rfl (fun hc5 => ?_)
        refine q_lald (pc := 32) (j := v2.toNatClampNeg) (K_93 h0) hc5 rfl d_X2_blockFrom_32 ?_
        refine r_iload_n (pc := 33) 3 d_X2_blockFrom_33 rfl rfl ?_
        refine r_lushr (pc := 34) d_X2_blockFrom_34 ?_
        refine r_lconst (pc := 35) (1 : Int64) d_X2_blockFrom_35 rfl ?_
        refine r_land (pc := 36) d_X2_blockFrom_36 ?_
        refine r_lconst (pc := 37) (0 : Int64) d_X2_blockFrom_37 rfl ?_
        refine r_lcmp (pc := 38) d_X2_blockFrom_38 ?_
        refine r_if_eq (f := (oV Sh)) (pc := 39) 57 d_X2_blockFrom_39 (by decide) (fun c6 => ?_) (fun c6 => ?_)
        · refine r_iinc (pc := 57) ((v3 + (1 : Int32))) 3 (ls' := [(3, .int (v3 + (1 : Int32))), (0, .ref 92), (1, .int v1), (2, .int v2)]) d_X2_blockFrom_57 rfl rfl (Nat.le_of_ble_eq_true rfl) rfl ?_
          refine r_goto (pc := 60) 10 d_X2_blockFrom_60 (by decide) ?_
          refine r_pick [1, 2, 3, 0] (ls' := [(0, .ref 92), (1, .int v1), (2, .int v2), (3, .int (v3 + (1 : Int32)))]) rfl ?_
          exact hk10 v2 (v3 + (1 : Int32)) D 
        · refine r_aload_n (pc := 42) 0 d_X2_blockFrom_42 rfl rfl ?_
          refine r_getR (pc := 43) g_X2_15 (K_92 h0) rfl (R_92_1 h0) d_X2_blockFrom_43 ?_
          refine r_iload_n (pc := 46) 1 d_X2_blockFrom_46 rfl rfl ?_
          refine r_bipush (pc := 47) (64 : Int32) d_X2_blockFrom_47 rfl ?_
          refine r_iload_n (pc := 49) 2 d_X2_blockFrom_49 rfl rfl ?_
          refine r_imul (pc := 50) d_X2_blockFrom_50 ?_
          refine r_iload_n (pc := 51) 3 d_X2_blockFrom_51 rfl rfl ?_
          refine r_iadd (pc := 52) d_X2_blockFrom_52 ?_
          refine r_ixor (pc := 53) d_X2_blockFrom_53 ?_
          refine q_cV (f := (oV Sh)) (av := [.ref 94, .int (v1 ^^^ (((64 : Int32) * v2) + v3))]) (st := []) (z_runS ck_X2_put rfl ml_X2_41 cs_X2_put rfl (Nat.le_of_ble_eq_true rfl) d_X2_blockFrom_54) (s_X2_put hst h0 (by omega) (K_94 h0) (by decide)) kp_V (fun D7 _ => ?_)
          refine r_iinc (pc := 57) ((v3 + (1 : Int32))) 3 (ls' := [(3, .int (v3 + (1 : Int32))), (0, .ref 92), (1, .int v1), (2, .int v2)]) d_X2_blockFrom_57 rfl rfl (Nat.le_of_ble_eq_true rfl) rfl ?_
          refine r_goto (pc := 60) 10 d_X2_blockFrom_60 (by decide) ?_
          refine r_pick [1, 2, 3, 0] (ls' := [(0, .ref 92), (1, .int v1), (2, .int v2), (3, .int (v3 + (1 : Int32)))]) rfl ?_
          exact hk10 v2 (v3 + (1 : Int32)) D7 
theorem s_X2_blockFrom_2 {X : zX} {Sh : zSh} {d : Nat} (hst : (zl X).stackTraces = false) (h0 : zSh0 Sh) (hd : 1 ≤ d) {v1 : Int32} : ∀ (n : Nat) (v2 : Int32) (D : zD) , Rn X m_X2_blockFrom (d + 1) 2 [(0, .ref 92), (1, .int v1), (2, .int v2)] [] (Sh, D) ((oV Sh) (fn_X2_blockFrom_2 v1 n v2 D)) := by
  intro n
  induction n with
  | zero => intro v2 D; exact Rn_none rfl
  | succ n hk2 =>
    intro v2 D
    rw [fn_X2_blockFrom_2]
    refine r_iload_n (pc := 2) 2 d_X2_blockFrom_2 rfl rfl ?_
    refine r_bipush (pc := 3) (64 : Int32) d_X2_blockFrom_3 rfl ?_
    refine r_icmp_ge (f := (oV Sh)) (pc := 5) 69 d_X2_blockFrom_5 (by decide) (fun c1 => ?_) (fun c1 => ?_)
    · exact r_vret (pc := 69) rfl d_X2_blockFrom_69
    · refine r_iconst (pc := 8) (0 : Int32) d_X2_blockFrom_8 rfl ?_
      refine r_istore_n (pc := 9) (ls' := [(3, .int (0 : Int32)), (0, .ref 92), (1, .int v1), (2, .int v2)]) d_X2_blockFrom_9 rfl (Nat.le_of_ble_eq_true rfl) rfl ?_
      refine r_pick [1, 2, 3, 0] (ls' := [(0, .ref 92), (1, .int v1), (2, .int v2), (3, .int (0 : Int32))]) rfl ?_
      exact s_X2_blockFrom_10 hst h0 hd (fn_X2_blockFrom_2 v1 n) hk2 zFU  v2 (0 : Int32) D
theorem s_X2_blockFrom {X : zX} {Sh : zSh} {d : Nat} (hst : (zl X).stackTraces = false) (h0 : zSh0 Sh) (hd : 2 ≤ d) {v1 : Int32} {D : zD} : Sd X m_X2_blockFrom d [.ref 92, .int v1] (Sh, D) ((oV Sh) (fn_X2_blockFrom v1 D)) := by
  obtain ⟨d, rfl⟩ : ∃ e, d = e + 1 := ⟨d - 1, by omega⟩
  replace hd : 1 ≤ d := by omega
  refine z_body ck_X2_blockFrom rfl (Nat.le_of_ble_eq_true rfl) rfl hst ?_
  rw [fn_X2_blockFrom]
  show Rn X m_X2_blockFrom (d + 1) 0 [(0, .ref 92), (1, .int v1)] [] (Sh, D) _
  refine r_iconst (pc := 0) (0 : Int32) d_X2_blockFrom_0 rfl ?_
  refine r_istore_n (pc := 1) (ls' := [(2, .int (0 : Int32)), (0, .ref 92), (1, .int v1)]) d_X2_blockFrom_1 rfl (Nat.le_of_ble_eq_true rfl) rfl ?_
  refine r_pick [1, 2, 0] (ls' := [(0, .ref 92), (1, .int v1), (2, .int (0 : Int32))]) rfl ?_
  exact s_X2_blockFrom_2 hst h0 hd zFU  (0 : Int32) D
/-! CoveredSigns$Codes.rowByRow -/
theorem d_X2_rowByRow_0 : decode (yB m_X2_rowByRow) 0 = .ok (.iload_n 2, 1) := by decide +kernel
theorem d_X2_rowByRow_1 : decode (yB m_X2_rowByRow) 1 = .ok (.bipush 12, 2) := by decide +kernel
theorem d_X2_rowByRow_3 : decode (yB m_X2_rowByRow) 3 = .ok (.if_icmp .le 5, 3) := by decide +kernel
theorem d_X2_rowByRow_6 : decode (yB m_X2_rowByRow) 6 = .ok (.iconst (-1), 1) := by decide +kernel
theorem d_X2_rowByRow_7 : decode (yB m_X2_rowByRow) 7 = .ok (.ireturn, 1) := by decide +kernel
theorem d_X2_rowByRow_8 : decode (yB m_X2_rowByRow) 8 = .ok (.aload_n 0, 1) := by decide +kernel
theorem d_X2_rowByRow_9 : decode (yB m_X2_rowByRow) 9 = .ok (.aload_n 1, 1) := by decide +kernel
theorem d_X2_rowByRow_10 : decode (yB m_X2_rowByRow) 10 = .ok (.iload_n 2, 1) := by decide +kernel
theorem d_X2_rowByRow_11 : decode (yB m_X2_rowByRow) 11 = .ok (.iconst 2, 1) := by decide +kernel
theorem d_X2_rowByRow_12 : decode (yB m_X2_rowByRow) 12 = .ok (.iload_n 3, 1) := by decide +kernel
theorem d_X2_rowByRow_13 : decode (yB m_X2_rowByRow) 13 = .ok (.imul, 1) := by decide +kernel
theorem d_X2_rowByRow_14 : decode (yB m_X2_rowByRow) 14 = .ok (.invokevirtual 49, 3) := by decide +kernel
theorem d_X2_rowByRow_17 : decode (yB m_X2_rowByRow) 17 = .ok (.aload_n 0, 1) := by decide +kernel
theorem d_X2_rowByRow_18 : decode (yB m_X2_rowByRow) 18 = .ok (.getfield 15, 3) := by decide +kernel
theorem d_X2_rowByRow_21 : decode (yB m_X2_rowByRow) 21 = .ok (.lconst 0, 1) := by decide +kernel
theorem d_X2_rowByRow_22 : decode (yB m_X2_rowByRow) 22 = .ok (.invokestatic 25, 3) := by decide +kernel
theorem d_X2_rowByRow_25 : decode (yB m_X2_rowByRow) 25 = .ok (.iconst 0, 1) := by decide +kernel
theorem d_X2_rowByRow_26 : decode (yB m_X2_rowByRow) 26 = .ok (.istore 4, 2) := by decide +kernel
theorem d_X2_rowByRow_28 : decode (yB m_X2_rowByRow) 28 = .ok (.iconst 0, 1) := by decide +kernel
theorem d_X2_rowByRow_29 : decode (yB m_X2_rowByRow) 29 = .ok (.istore 5, 2) := by decide +kernel
theorem d_X2_rowByRow_31 : decode (yB m_X2_rowByRow) 31 = .ok (.iload 5, 2) := by decide +kernel
theorem d_X2_rowByRow_33 : decode (yB m_X2_rowByRow) 33 = .ok (.iconst 1, 1) := by decide +kernel
theorem d_X2_rowByRow_34 : decode (yB m_X2_rowByRow) 34 = .ok (.iload_n 2, 1) := by decide +kernel
theorem d_X2_rowByRow_35 : decode (yB m_X2_rowByRow) 35 = .ok (.ishl, 1) := by decide +kernel
theorem d_X2_rowByRow_36 : decode (yB m_X2_rowByRow) 36 = .ok (.if_icmp .ge 30, 3) := by decide +kernel
theorem d_X2_rowByRow_39 : decode (yB m_X2_rowByRow) 39 = .ok (.aload_n 0, 1) := by decide +kernel
theorem d_X2_rowByRow_40 : decode (yB m_X2_rowByRow) 40 = .ok (.getfield 15, 3) := by decide +kernel
theorem d_X2_rowByRow_43 : decode (yB m_X2_rowByRow) 43 = .ok (.iload 5, 2) := by decide +kernel
theorem d_X2_rowByRow_45 : decode (yB m_X2_rowByRow) 45 = .ok (.invokestatic 45, 3) := by decide +kernel
theorem d_X2_rowByRow_48 : decode (yB m_X2_rowByRow) 48 = .ok (.ifCond .ne 12, 3) := by decide +kernel
theorem d_X2_rowByRow_51 : decode (yB m_X2_rowByRow) 51 = .ok (.iinc 4 1, 3) := by decide +kernel
theorem d_X2_rowByRow_54 : decode (yB m_X2_rowByRow) 54 = .ok (.aload_n 0, 1) := by decide +kernel
theorem d_X2_rowByRow_55 : decode (yB m_X2_rowByRow) 55 = .ok (.iload 5, 2) := by decide +kernel
theorem d_X2_rowByRow_57 : decode (yB m_X2_rowByRow) 57 = .ok (.invokevirtual 53, 3) := by decide +kernel
theorem d_X2_rowByRow_60 : decode (yB m_X2_rowByRow) 60 = .ok (.iinc 5 1, 3) := by decide +kernel
theorem d_X2_rowByRow_63 : decode (yB m_X2_rowByRow) 63 = .ok (.goto (-32), 3) := by decide +kernel
theorem d_X2_rowByRow_66 : decode (yB m_X2_rowByRow) 66 = .ok (.iload 4, 2) := by decide +kernel
theorem d_X2_rowByRow_68 : decode (yB m_X2_rowByRow) 68 = .ok (.ireturn, 1) := by decide +kernel
def fn_X2_rowByRow_31 (a1 : Nat) (v2 : Int32) (v3 : Int32) : Nat → Int32 → Int32 → zD → Option (Int32 × zD)
  | 0, _, _, _ => none
  | n + 1, v4, v5, D => (if ((1 : Int32) <<< (v2 &&& 31)) ≤ v5 then ((some (v4, D))) else ((fn_X2_has 94 64 v5 D).bind fun x5 => (if x5 = 0 then ((fn_X2_blockFrom v5 D).bind fun D7 => ((fn_X2_rowByRow_31 a1 v2 v3 n) (v4 + (1 : Int32)) (v5 + (1 : Int32)) D7)) else (((fn_X2_rowByRow_31 a1 v2 v3 n) v4 (v5 + (1 : Int32)) D)))))
def fn_X2_rowByRow (a1 : Nat) (v2 : Int32) (v3 : Int32) (D : zD) : Option (Int32 × zD) := (if v2 ≤ (12 : Int32) then ((fn_X2_gather a1 v2 ((2 : Int32) * v3) D).bind fun D2 => (fn_JA_fill 94 64 (0 : Int64) D2).bind fun D3 => (fn_X2_rowByRow_31 a1 v2 v3 zFU (0 : Int32) (0 : Int32) D3)) else ((some ((-1 : Int32), D))))
theorem s_X2_rowByRow_31 {X : zX} {Sh : zSh} {d : Nat} (hst : (zl X).stackTraces = false) (h0 : zSh0 Sh) (hd : 3 ≤ d) {a1 : Nat} {v2 : Int32} {v3 : Int32} (h_a1 : a1 ∈ zI_3) : ∀ (n : Nat) (v4 : Int32) (v5 : Int32) (D : zD) , Rn X m_X2_rowByRow (d + 1) 31 [(0, .ref 92), (2, .int v2), (4, .int v4), (5, .int v5)] [] (Sh, D) ((oI Sh) (fn_X2_rowByRow_31 a1 v2 v3 n v4 v5 D)) := by
  intro n
  induction n with
  | zero => intro v4 v5 D; exact Rn_none rfl
  | succ n hk31 =>
    intro v4 v5 D
    rw [fn_X2_rowByRow_31]
    refine r_iload (pc := 31) 3 d_X2_rowByRow_31 rfl ?_
    refine r_iconst (pc := 33) (1 : Int32) d_X2_rowByRow_33 rfl ?_
    refine r_iload_n (pc := 34) 1 d_X2_rowByRow_34 rfl rfl ?_
    refine r_ishl (pc := 35) d_X2_rowByRow_35 ?_
    refine r_icmp_ge (f := (oI Sh)) (pc := 36) 66 d_X2_rowByRow_36 (by decide) (fun c4 => ?_) (fun c4 => ?_)
    · refine r_iload (pc := 66) 2 d_X2_rowByRow_66 rfl ?_
      exact r_iret (pc := 68) rfl d_X2_rowByRow_68
    · refine r_aload_n (pc := 39) 0 d_X2_rowByRow_39 rfl rfl ?_
      refine r_getR (pc := 40) g_X2_15 (K_92 h0) rfl (R_92_1 h0) d_X2_rowByRow_40 ?_
      refine r_iload (pc := 43) 3 d_X2_rowByRow_43 rfl ?_
      refine q_cP (f := (oI Sh)) (av := [.ref 94, .int v5]) (st := []) (z_runS ck_X2_has rfl ml_X2_45 cs_X2_has rfl (Nat.le_of_ble_eq_true rfl) d_X2_rowByRow_45) (s_X2_has hst h0 (by omega) (K_94 h0) (by decide)) kp_I (fun x5 _ => ?_)
      refine r_if_ne (f := (oI Sh)) (pc := 48) 60 d_X2_rowByRow_48 (by decide) (fun c6 => ?_) (fun c6 => ?_)
      · refine r_iinc (pc := 60) ((v5 + (1 : Int32))) 3 (ls' := [(5, .int (v5 + (1 : Int32))), (0, .ref 92), (2, .int v2), (4, .int v4)]) d_X2_rowByRow_60 rfl rfl (Nat.le_of_ble_eq_true rfl) rfl ?_
        refine r_goto (pc := 63) 31 d_X2_rowByRow_63 (by decide) ?_
        refine r_pick [1, 2, 3, 0] (ls' := [(0, .ref 92), (2, .int v2), (4, .int v4), (5, .int (v5 + (1 : Int32)))]) rfl ?_
        exact hk31 v4 (v5 + (1 : Int32)) D 
      · refine r_iinc (pc := 51) ((v4 + (1 : Int32))) 2 (ls' := [(4, .int (v4 + (1 : Int32))), (0, .ref 92), (2, .int v2), (5, .int v5)]) d_X2_rowByRow_51 rfl rfl (Nat.le_of_ble_eq_true rfl) rfl ?_
        refine r_aload_n (pc := 54) 1 d_X2_rowByRow_54 rfl rfl ?_
        refine r_iload (pc := 55) 3 d_X2_rowByRow_55 rfl ?_
        refine q_cV (f := (oI Sh)) (av := [.ref 92, .int v5]) (st := []) (z_runV ck_X2_blockFrom rfl ml_X2_53 ci_X2_blockFrom cv_X2_blockFrom (K_92 h0) (ci := 2) rfl rfl (Nat.le_of_ble_eq_true rfl) d_X2_rowByRow_57) (s_X2_blockFrom hst h0 (by omega)) kp_I (fun D7 _ => ?_)
        refine r_iinc (pc := 60) ((v5 + (1 : Int32))) 3 (ls' := [(5, .int (v5 + (1 : Int32))), (4, .int (v4 + (1 : Int32))), (0, .ref 92), (2, .int v2)]) d_X2_rowByRow_60 rfl rfl (Nat.le_of_ble_eq_true rfl) rfl ?_
        refine r_goto (pc := 63) 31 d_X2_rowByRow_63 (by decide) ?_
        refine r_pick [2, 3, 1, 0] (ls' := [(0, .ref 92), (2, .int v2), (4, .int (v4 + (1 : Int32))), (5, .int (v5 + (1 : Int32)))]) rfl ?_
        exact hk31 (v4 + (1 : Int32)) (v5 + (1 : Int32)) D7 
theorem s_X2_rowByRow {X : zX} {Sh : zSh} {d : Nat} (hst : (zl X).stackTraces = false) (h0 : zSh0 Sh) (hd : 4 ≤ d) {a1 : Nat} {v2 : Int32} {v3 : Int32} (h_a1 : a1 ∈ zI_3) {D : zD} : Sd X m_X2_rowByRow d [.ref 92, .ref a1, .int v2, .int v3] (Sh, D) ((oI Sh) (fn_X2_rowByRow a1 v2 v3 D)) := by
  obtain ⟨d, rfl⟩ : ∃ e, d = e + 1 := ⟨d - 1, by omega⟩
  replace hd : 3 ≤ d := by omega
  refine z_body ck_X2_rowByRow rfl (Nat.le_of_ble_eq_true rfl) rfl hst ?_
  rw [fn_X2_rowByRow]
  show Rn X m_X2_rowByRow (d + 1) 0 [(0, .ref 92), (1, .ref a1), (2, .int v2), (3, .int v3)] [] (Sh, D) _
  refine r_iload_n (pc := 0) 2 d_X2_rowByRow_0 rfl rfl ?_
  refine r_bipush (pc := 1) (12 : Int32) d_X2_rowByRow_1 rfl ?_
  refine r_icmp_le (f := (oI Sh)) (pc := 3) 8 d_X2_rowByRow_3 (by decide) (fun c1 => ?_) (fun c1 => ?_)
  · refine r_aload_n (pc := 8) 0 d_X2_rowByRow_8 rfl rfl ?_
    refine r_aload_n (pc := 9) 1 d_X2_rowByRow_9 rfl rfl ?_
    refine r_iload_n (pc := 10) 2 d_X2_rowByRow_10 rfl rfl ?_
    refine r_iconst (pc := 11) (2 : Int32) d_X2_rowByRow_11 rfl ?_
    refine r_iload_n (pc := 12) 3 d_X2_rowByRow_12 rfl rfl ?_
    refine r_imul (pc := 13) d_X2_rowByRow_13 ?_
    refine q_cV (f := (oI Sh)) (av := [.ref 92, .ref a1, .int v2, .int ((2 : Int32) * v3)]) (st := []) (z_runV ck_X2_gather rfl ml_X2_49 ci_X2_gather cv_X2_gather (K_92 h0) (ci := 2) rfl rfl (Nat.le_of_ble_eq_true rfl) d_X2_rowByRow_14) (s_X2_gather hst h0 (by omega) h_a1) kp_I (fun D2 _ => ?_)
    refine r_aload_n (pc := 17) 0 d_X2_rowByRow_17 rfl rfl ?_
    refine r_getR (pc := 18) g_X2_15 (K_92 h0) rfl (R_92_1 h0) d_X2_rowByRow_18 ?_
    refine r_lconst (pc := 21) (0 : Int64) d_X2_rowByRow_21 rfl ?_
    refine q_cV (f := (oI Sh)) (av := [.ref 94, .long (0 : Int64)]) (st := []) (z_runS ck_JA_fill rfl ml_X2_25 cs_JA_fill rfl (Nat.le_of_ble_eq_true rfl) d_X2_rowByRow_22) (s_JA_fill hst h0 (by omega) (K_94 h0) (by decide)) kp_I (fun D3 _ => ?_)
    refine r_iconst (pc := 25) (0 : Int32) d_X2_rowByRow_25 rfl ?_
    refine r_istore (pc := 26) (ls' := [(4, .int (0 : Int32)), (0, .ref 92), (1, .ref a1), (2, .int v2), (3, .int v3)]) d_X2_rowByRow_26 (Nat.le_of_ble_eq_true rfl) rfl ?_
    refine r_iconst (pc := 28) (0 : Int32) d_X2_rowByRow_28 rfl ?_
    refine r_istore (pc := 29) (ls' := [(5, .int (0 : Int32)), (4, .int (0 : Int32)), (0, .ref 92), (1, .ref a1), (2, .int v2), (3, .int v3)]) d_X2_rowByRow_29 (Nat.le_of_ble_eq_true rfl) rfl ?_
    refine r_pick [2, 4, 1, 0] (ls' := [(0, .ref 92), (2, .int v2), (4, .int (0 : Int32)), (5, .int (0 : Int32))]) rfl ?_
    exact s_X2_rowByRow_31 hst h0 hd h_a1 zFU  (0 : Int32) (0 : Int32) D3
  · refine r_iconst (pc := 6) (-1 : Int32) d_X2_rowByRow_6 rfl ?_
    exact r_iret (pc := 7) rfl d_X2_rowByRow_7
/-! CoveredSigns$Codes.ball -/
theorem d_X2_ball_0 : decode (yB m_X2_ball) 0 = .ok (.iconst 0, 1) := by decide +kernel
theorem d_X2_ball_1 : decode (yB m_X2_ball) 1 = .ok (.iload_n 2, 1) := by decide +kernel
theorem d_X2_ball_2 : decode (yB m_X2_ball) 2 = .ok (.iload_n 1, 1) := by decide +kernel
theorem d_X2_ball_3 : decode (yB m_X2_ball) 3 = .ok (.isub, 1) := by decide +kernel
theorem d_X2_ball_4 : decode (yB m_X2_ball) 4 = .ok (.invokestatic 76, 3) := by decide +kernel
theorem d_X2_ball_7 : decode (yB m_X2_ball) 7 = .ok (.istore 4, 2) := by decide +kernel
theorem d_X2_ball_9 : decode (yB m_X2_ball) 9 = .ok (.iconst 1, 1) := by decide +kernel
theorem d_X2_ball_10 : decode (yB m_X2_ball) 10 = .ok (.istore 5, 2) := by decide +kernel
theorem d_X2_ball_12 : decode (yB m_X2_ball) 12 = .ok (.iconst 1, 1) := by decide +kernel
theorem d_X2_ball_13 : decode (yB m_X2_ball) 13 = .ok (.istore 6, 2) := by decide +kernel
theorem d_X2_ball_15 : decode (yB m_X2_ball) 15 = .ok (.iconst 1, 1) := by decide +kernel
theorem d_X2_ball_16 : decode (yB m_X2_ball) 16 = .ok (.istore 7, 2) := by decide +kernel
theorem d_X2_ball_18 : decode (yB m_X2_ball) 18 = .ok (.iload 7, 2) := by decide +kernel
theorem d_X2_ball_20 : decode (yB m_X2_ball) 20 = .ok (.iload_n 3, 1) := by decide +kernel
theorem d_X2_ball_21 : decode (yB m_X2_ball) 21 = .ok (.if_icmp .gt 38, 3) := by decide +kernel
theorem d_X2_ball_24 : decode (yB m_X2_ball) 24 = .ok (.iload 7, 2) := by decide +kernel
theorem d_X2_ball_26 : decode (yB m_X2_ball) 26 = .ok (.iload 4, 2) := by decide +kernel
theorem d_X2_ball_28 : decode (yB m_X2_ball) 28 = .ok (.if_icmp .gt 31, 3) := by decide +kernel
theorem d_X2_ball_31 : decode (yB m_X2_ball) 31 = .ok (.iload 5, 2) := by decide +kernel
theorem d_X2_ball_33 : decode (yB m_X2_ball) 33 = .ok (.iload 4, 2) := by decide +kernel
theorem d_X2_ball_35 : decode (yB m_X2_ball) 35 = .ok (.iload 7, 2) := by decide +kernel
theorem d_X2_ball_37 : decode (yB m_X2_ball) 37 = .ok (.isub, 1) := by decide +kernel
theorem d_X2_ball_38 : decode (yB m_X2_ball) 38 = .ok (.iconst 1, 1) := by decide +kernel
theorem d_X2_ball_39 : decode (yB m_X2_ball) 39 = .ok (.iadd, 1) := by decide +kernel
theorem d_X2_ball_40 : decode (yB m_X2_ball) 40 = .ok (.imul, 1) := by decide +kernel
theorem d_X2_ball_41 : decode (yB m_X2_ball) 41 = .ok (.iload 7, 2) := by decide +kernel
theorem d_X2_ball_43 : decode (yB m_X2_ball) 43 = .ok (.idiv, 1) := by decide +kernel
theorem d_X2_ball_44 : decode (yB m_X2_ball) 44 = .ok (.istore 5, 2) := by decide +kernel
theorem d_X2_ball_46 : decode (yB m_X2_ball) 46 = .ok (.iload 6, 2) := by decide +kernel
theorem d_X2_ball_48 : decode (yB m_X2_ball) 48 = .ok (.iload 5, 2) := by decide +kernel
theorem d_X2_ball_50 : decode (yB m_X2_ball) 50 = .ok (.iadd, 1) := by decide +kernel
theorem d_X2_ball_51 : decode (yB m_X2_ball) 51 = .ok (.istore 6, 2) := by decide +kernel
theorem d_X2_ball_53 : decode (yB m_X2_ball) 53 = .ok (.iinc 7 1, 3) := by decide +kernel
theorem d_X2_ball_56 : decode (yB m_X2_ball) 56 = .ok (.goto (-38), 3) := by decide +kernel
theorem d_X2_ball_59 : decode (yB m_X2_ball) 59 = .ok (.iconst 1, 1) := by decide +kernel
theorem d_X2_ball_60 : decode (yB m_X2_ball) 60 = .ok (.iload 6, 2) := by decide +kernel
theorem d_X2_ball_62 : decode (yB m_X2_ball) 62 = .ok (.iload_n 1, 1) := by decide +kernel
theorem d_X2_ball_63 : decode (yB m_X2_ball) 63 = .ok (.bipush 6, 2) := by decide +kernel
theorem d_X2_ball_65 : decode (yB m_X2_ball) 65 = .ok (.invokestatic 81, 3) := by decide +kernel
theorem d_X2_ball_68 : decode (yB m_X2_ball) 68 = .ok (.ishl, 1) := by decide +kernel
theorem d_X2_ball_69 : decode (yB m_X2_ball) 69 = .ok (.invokestatic 76, 3) := by decide +kernel
theorem d_X2_ball_72 : decode (yB m_X2_ball) 72 = .ok (.ireturn, 1) := by decide +kernel
def fn_X2_ball_59 (v1 : Int32) (v2 : Int32) (v3 : Int32) (v6 : Int32) : Option Int32 := (some (zmx (1 : Int32) (v6 <<< ((zmn v1 (6 : Int32)) &&& 31))))
def fn_X2_ball_18 (v1 : Int32) (v2 : Int32) (v3 : Int32) : Nat → Int32 → Int32 → Int32 → Int32 → Option Int32
  | 0, _, _, _, _ => none
  | n + 1, v4, v5, v6, v7 => (if v3 < v7 then ((fn_X2_ball_59 v1 v2 v3 v6)) else ((if v4 < v7 then ((fn_X2_ball_59 v1 v2 v3 v6)) else (zdv v7 <| zlet ((v5 * ((v4 - v7) + (1 : Int32))) / v7) fun x4 => zlet (v6 + x4) fun x5 => ((fn_X2_ball_18 v1 v2 v3 n) v4 x4 x5 (v7 + (1 : Int32)))))))
def fn_X2_ball (v1 : Int32) (v2 : Int32) (v3 : Int32) : Option Int32 := zlet (zmx (0 : Int32) (v2 - v1)) fun x1 => (fn_X2_ball_18 v1 v2 v3 zFU x1 (1 : Int32) (1 : Int32) (1 : Int32))
theorem s_X2_ball_59 {X : zX} {Sh : zSh} {d : Nat} (hst : (zl X).stackTraces = false) (h0 : zSh0 Sh) (hd : 1 ≤ d) {v1 : Int32} {v2 : Int32} {v3 : Int32} (D : zD) (v6 : Int32)  : Rn X m_X2_ball (d + 1) 59 [(1, .int v1), (6, .int v6)] [] (Sh, D) ((oP Sh D) (fn_X2_ball_59 v1 v2 v3 v6)) := by
  rw [fn_X2_ball_59]
  refine r_iconst (pc := 59) (1 : Int32) d_X2_ball_59 rfl ?_
  refine r_iload (pc := 60) 1 d_X2_ball_60 rfl ?_
  refine r_iload_n (pc := 62) 0 d_X2_ball_62 rfl rfl ?_
  refine r_bipush (pc := 63) (6 : Int32) d_X2_ball_63 rfl ?_
  refine r_mmin (pc := 65) ml_X2_81 (by omega) (Nat.le_of_ble_eq_true rfl) d_X2_ball_65 ?_
  refine r_ishl (pc := 68) d_X2_ball_68 ?_
  refine r_mmax (pc := 69) ml_X2_76 (by omega) (Nat.le_of_ble_eq_true rfl) d_X2_ball_69 ?_
  exact r_iret (pc := 72) rfl d_X2_ball_72
theorem s_X2_ball_18 {X : zX} {Sh : zSh} {d : Nat} (hst : (zl X).stackTraces = false) (h0 : zSh0 Sh) (hd : 1 ≤ d) {v1 : Int32} {v2 : Int32} {v3 : Int32} (D : zD) : ∀ (n : Nat) (v4 : Int32) (v5 : Int32) (v6 : Int32) (v7 : Int32) , Rn X m_X2_ball (d + 1) 18 [(1, .int v1), (3, .int v3), (4, .int v4), (5, .int v5), (6, .int v6), (7, .int v7)] [] (Sh, D) ((oP Sh D) (fn_X2_ball_18 v1 v2 v3 n v4 v5 v6 v7)) := by
  intro n
  induction n with
  | zero => intro v4 v5 v6 v7; exact Rn_none rfl
  | succ n hk18 =>
    intro v4 v5 v6 v7
    rw [fn_X2_ball_18]
    refine r_iload (pc := 18) 5 d_X2_ball_18 rfl ?_
    refine r_iload_n (pc := 20) 1 d_X2_ball_20 rfl rfl ?_
    refine r_icmp_gt (f := (oP Sh D)) (pc := 21) 59 d_X2_ball_21 (by decide) (fun c2 => ?_) (fun c2 => ?_)
    · refine r_pick [0, 4] (ls' := [(1, .int v1), (6, .int v6)]) rfl ?_
      exact s_X2_ball_59 hst h0 hd D v6
    · refine r_iload (pc := 24) 5 d_X2_ball_24 rfl ?_
      refine r_iload (pc := 26) 2 d_X2_ball_26 rfl ?_
      refine r_icmp_gt (f := (oP Sh D)) (pc := 28) 59 d_X2_ball_28 (by decide) (fun c3 => ?_) (fun c3 => ?_)
      · refine r_pick [0, 4] (ls' := [(1, .int v1), (6, .int v6)]) rfl ?_
        exact s_X2_ball_59 hst h0 hd D v6
      · refine r_iload (pc := 31) 3 d_X2_ball_31 rfl ?_
        refine r_iload (pc := 33) 2 d_X2_ball_33 rfl ?_
        refine r_iload (pc := 35) 5 d_X2_ball_35 rfl ?_
        refine r_isub (pc := 37) d_X2_ball_37 ?_
        refine r_iconst (pc := 38) (1 : Int32) d_X2_ball_38 rfl ?_
        refine r_iadd (pc := 39) d_X2_ball_39 ?_
        refine r_imul (pc := 40) d_X2_ball_40 ?_
        refine r_iload (pc := 41) 5 d_X2_ball_41 rfl ?_
        refine r_idiv (f := (oP Sh D)) (pc := 43) d_X2_ball_43 rfl ?_
        refine r_leti (f := (oP Sh D)) (fun x4 => ?_)
        refine r_istore (pc := 44) (ls' := [(5, .int x4), (1, .int v1), (3, .int v3), (4, .int v4), (6, .int v6), (7, .int v7)]) d_X2_ball_44 (Nat.le_of_ble_eq_true rfl) rfl ?_
        refine r_iload (pc := 46) 4 d_X2_ball_46 rfl ?_
        refine r_iload (pc := 48) 0 d_X2_ball_48 rfl ?_
        refine r_iadd (pc := 50) d_X2_ball_50 ?_
        refine r_leti (f := (oP Sh D)) (fun x5 => ?_)
        refine r_istore (pc := 51) (ls' := [(6, .int x5), (5, .int x4), (1, .int v1), (3, .int v3), (4, .int v4), (7, .int v7)]) d_X2_ball_51 (Nat.le_of_ble_eq_true rfl) rfl ?_
        refine r_iinc (pc := 53) ((v7 + (1 : Int32))) 5 (ls' := [(7, .int (v7 + (1 : Int32))), (6, .int x5), (5, .int x4), (1, .int v1), (3, .int v3), (4, .int v4)]) d_X2_ball_53 rfl rfl (Nat.le_of_ble_eq_true rfl) rfl ?_
        refine r_goto (pc := 56) 18 d_X2_ball_56 (by decide) ?_
        refine r_pick [3, 4, 5, 2, 1, 0] (ls' := [(1, .int v1), (3, .int v3), (4, .int v4), (5, .int x4), (6, .int x5), (7, .int (v7 + (1 : Int32)))]) rfl ?_
        exact hk18 v4 x4 x5 (v7 + (1 : Int32)) 
theorem s_X2_ball {X : zX} {Sh : zSh} {d : Nat} (hst : (zl X).stackTraces = false) (h0 : zSh0 Sh) (hd : 2 ≤ d) {v1 : Int32} {v2 : Int32} {v3 : Int32} {D : zD} : Sd X m_X2_ball d [.ref 92, .int v1, .int v2, .int v3] (Sh, D) ((oP Sh D) (fn_X2_ball v1 v2 v3)) := by
  obtain ⟨d, rfl⟩ : ∃ e, d = e + 1 := ⟨d - 1, by omega⟩
  replace hd : 1 ≤ d := by omega
  refine z_body ck_X2_ball rfl (Nat.le_of_ble_eq_true rfl) rfl hst ?_
  rw [fn_X2_ball]
  show Rn X m_X2_ball (d + 1) 0 [(0, .ref 92), (1, .int v1), (2, .int v2), (3, .int v3)] [] (Sh, D) _
  refine r_iconst (pc := 0) (0 : Int32) d_X2_ball_0 rfl ?_
  refine r_iload_n (pc := 1) 2 d_X2_ball_1 rfl rfl ?_
  refine r_iload_n (pc := 2) 1 d_X2_ball_2 rfl rfl ?_
  refine r_isub (pc := 3) d_X2_ball_3 ?_
  refine r_mmax (pc := 4) ml_X2_76 (by omega) (Nat.le_of_ble_eq_true rfl) d_X2_ball_4 ?_
  refine r_leti (f := (oP Sh D)) (fun x1 => ?_)
  refine r_istore (pc := 7) (ls' := [(4, .int x1), (0, .ref 92), (1, .int v1), (2, .int v2), (3, .int v3)]) d_X2_ball_7 (Nat.le_of_ble_eq_true rfl) rfl ?_
  refine r_iconst (pc := 9) (1 : Int32) d_X2_ball_9 rfl ?_
  refine r_istore (pc := 10) (ls' := [(5, .int (1 : Int32)), (4, .int x1), (0, .ref 92), (1, .int v1), (2, .int v2), (3, .int v3)]) d_X2_ball_10 (Nat.le_of_ble_eq_true rfl) rfl ?_
  refine r_iconst (pc := 12) (1 : Int32) d_X2_ball_12 rfl ?_
  refine r_istore (pc := 13) (ls' := [(6, .int (1 : Int32)), (5, .int (1 : Int32)), (4, .int x1), (0, .ref 92), (1, .int v1), (2, .int v2), (3, .int v3)]) d_X2_ball_13 (Nat.le_of_ble_eq_true rfl) rfl ?_
  refine r_iconst (pc := 15) (1 : Int32) d_X2_ball_15 rfl ?_
  refine r_istore (pc := 16) (ls' := [(7, .int (1 : Int32)), (6, .int (1 : Int32)), (5, .int (1 : Int32)), (4, .int x1), (0, .ref 92), (1, .int v1), (2, .int v2), (3, .int v3)]) d_X2_ball_16 (Nat.le_of_ble_eq_true rfl) rfl ?_
  refine r_pick [5, 7, 3, 2, 1, 0] (ls' := [(1, .int v1), (3, .int v3), (4, .int x1), (5, .int (1 : Int32)), (6, .int (1 : Int32)), (7, .int (1 : Int32))]) rfl ?_
  exact s_X2_ball_18 hst h0 hd D zFU  x1 (1 : Int32) (1 : Int32) (1 : Int32)
/-! CoveredSigns$Codes.arrange -/
theorem d_X2_arrange_0 : decode (yB m_X2_arrange) 0 = .ok (.iconst 0, 1) := by decide +kernel
theorem d_X2_arrange_1 : decode (yB m_X2_arrange) 1 = .ok (.istore 4, 2) := by decide +kernel
theorem d_X2_arrange_3 : decode (yB m_X2_arrange) 3 = .ok (.lload_n 1, 1) := by decide +kernel
theorem d_X2_arrange_4 : decode (yB m_X2_arrange) 4 = .ok (.lstore 5, 2) := by decide +kernel
theorem d_X2_arrange_6 : decode (yB m_X2_arrange) 6 = .ok (.iconst 1, 1) := by decide +kernel
theorem d_X2_arrange_7 : decode (yB m_X2_arrange) 7 = .ok (.istore 7, 2) := by decide +kernel
theorem d_X2_arrange_9 : decode (yB m_X2_arrange) 9 = .ok (.iload 7, 2) := by decide +kernel
theorem d_X2_arrange_11 : decode (yB m_X2_arrange) 11 = .ok (.bipush 64, 2) := by decide +kernel
theorem d_X2_arrange_13 : decode (yB m_X2_arrange) 13 = .ok (.if_icmp .gt 136, 3) := by decide +kernel
theorem d_X2_arrange_16 : decode (yB m_X2_arrange) 16 = .ok (.lload 5, 2) := by decide +kernel
theorem d_X2_arrange_18 : decode (yB m_X2_arrange) 18 = .ok (.lconst 0, 1) := by decide +kernel
theorem d_X2_arrange_19 : decode (yB m_X2_arrange) 19 = .ok (.lcmp, 1) := by decide +kernel
theorem d_X2_arrange_20 : decode (yB m_X2_arrange) 20 = .ok (.ifCond .eq 129, 3) := by decide +kernel
theorem d_X2_arrange_23 : decode (yB m_X2_arrange) 23 = .ok (.lload 5, 2) := by decide +kernel
theorem d_X2_arrange_25 : decode (yB m_X2_arrange) 25 = .ok (.lstore 8, 2) := by decide +kernel
theorem d_X2_arrange_27 : decode (yB m_X2_arrange) 27 = .ok (.iconst 0, 1) := by decide +kernel
theorem d_X2_arrange_28 : decode (yB m_X2_arrange) 28 = .ok (.istore 10, 2) := by decide +kernel
theorem d_X2_arrange_30 : decode (yB m_X2_arrange) 30 = .ok (.iload 10, 2) := by decide +kernel
theorem d_X2_arrange_32 : decode (yB m_X2_arrange) 32 = .ok (.bipush 64, 2) := by decide +kernel
theorem d_X2_arrange_34 : decode (yB m_X2_arrange) 34 = .ok (.if_icmp .ge 109, 3) := by decide +kernel
theorem d_X2_arrange_37 : decode (yB m_X2_arrange) 37 = .ok (.lload 8, 2) := by decide +kernel
theorem d_X2_arrange_39 : decode (yB m_X2_arrange) 39 = .ok (.lconst 0, 1) := by decide +kernel
theorem d_X2_arrange_40 : decode (yB m_X2_arrange) 40 = .ok (.lcmp, 1) := by decide +kernel
theorem d_X2_arrange_41 : decode (yB m_X2_arrange) 41 = .ok (.ifCond .eq 102, 3) := by decide +kernel
theorem d_X2_arrange_44 : decode (yB m_X2_arrange) 44 = .ok (.lload 8, 2) := by decide +kernel
theorem d_X2_arrange_46 : decode (yB m_X2_arrange) 46 = .ok (.lload 8, 2) := by decide +kernel
theorem d_X2_arrange_48 : decode (yB m_X2_arrange) 48 = .ok (.lneg, 1) := by decide +kernel
theorem d_X2_arrange_49 : decode (yB m_X2_arrange) 49 = .ok (.land, 1) := by decide +kernel
theorem d_X2_arrange_50 : decode (yB m_X2_arrange) 50 = .ok (.lconst 1, 1) := by decide +kernel
theorem d_X2_arrange_51 : decode (yB m_X2_arrange) 51 = .ok (.lsub, 1) := by decide +kernel
theorem d_X2_arrange_52 : decode (yB m_X2_arrange) 52 = .ok (.invokestatic 90, 3) := by decide +kernel
theorem d_X2_arrange_55 : decode (yB m_X2_arrange) 55 = .ok (.bipush 63, 2) := by decide +kernel
theorem d_X2_arrange_57 : decode (yB m_X2_arrange) 57 = .ok (.iand, 1) := by decide +kernel
theorem d_X2_arrange_58 : decode (yB m_X2_arrange) 58 = .ok (.istore 11, 2) := by decide +kernel
theorem d_X2_arrange_60 : decode (yB m_X2_arrange) 60 = .ok (.lload 8, 2) := by decide +kernel
theorem d_X2_arrange_62 : decode (yB m_X2_arrange) 62 = .ok (.lconst 1, 1) := by decide +kernel
theorem d_X2_arrange_63 : decode (yB m_X2_arrange) 63 = .ok (.iload 11, 2) := by decide +kernel
theorem d_X2_arrange_65 : decode (yB m_X2_arrange) 65 = .ok (.lshl, 1) := by decide +kernel
theorem d_X2_arrange_66 : decode (yB m_X2_arrange) 66 = .ok (.ldc2_w 88, 3) := by decide +kernel
theorem d_X2_arrange_69 : decode (yB m_X2_arrange) 69 = .ok (.lxor, 1) := by decide +kernel
theorem d_X2_arrange_70 : decode (yB m_X2_arrange) 70 = .ok (.aload_n 0, 1) := by decide +kernel
theorem d_X2_arrange_71 : decode (yB m_X2_arrange) 71 = .ok (.getfield 18, 3) := by decide +kernel
theorem d_X2_arrange_74 : decode (yB m_X2_arrange) 74 = .ok (.iload 11, 2) := by decide +kernel
theorem d_X2_arrange_76 : decode (yB m_X2_arrange) 76 = .ok (.laload, 1) := by decide +kernel
theorem d_X2_arrange_77 : decode (yB m_X2_arrange) 77 = .ok (.ldc2_w 88, 3) := by decide +kernel
theorem d_X2_arrange_80 : decode (yB m_X2_arrange) 80 = .ok (.lxor, 1) := by decide +kernel
theorem d_X2_arrange_81 : decode (yB m_X2_arrange) 81 = .ok (.land, 1) := by decide +kernel
theorem d_X2_arrange_82 : decode (yB m_X2_arrange) 82 = .ok (.land, 1) := by decide +kernel
theorem d_X2_arrange_83 : decode (yB m_X2_arrange) 83 = .ok (.lstore 8, 2) := by decide +kernel
theorem d_X2_arrange_85 : decode (yB m_X2_arrange) 85 = .ok (.lload 5, 2) := by decide +kernel
theorem d_X2_arrange_87 : decode (yB m_X2_arrange) 87 = .ok (.lconst 1, 1) := by decide +kernel
theorem d_X2_arrange_88 : decode (yB m_X2_arrange) 88 = .ok (.iload 11, 2) := by decide +kernel
theorem d_X2_arrange_90 : decode (yB m_X2_arrange) 90 = .ok (.lshl, 1) := by decide +kernel
theorem d_X2_arrange_91 : decode (yB m_X2_arrange) 91 = .ok (.ldc2_w 88, 3) := by decide +kernel
theorem d_X2_arrange_94 : decode (yB m_X2_arrange) 94 = .ok (.lxor, 1) := by decide +kernel
theorem d_X2_arrange_95 : decode (yB m_X2_arrange) 95 = .ok (.land, 1) := by decide +kernel
theorem d_X2_arrange_96 : decode (yB m_X2_arrange) 96 = .ok (.lstore 5, 2) := by decide +kernel
theorem d_X2_arrange_98 : decode (yB m_X2_arrange) 98 = .ok (.iload_n 3, 1) := by decide +kernel
theorem d_X2_arrange_99 : decode (yB m_X2_arrange) 99 = .ok (.iload 4, 2) := by decide +kernel
theorem d_X2_arrange_101 : decode (yB m_X2_arrange) 101 = .ok (.iadd, 1) := by decide +kernel
theorem d_X2_arrange_102 : decode (yB m_X2_arrange) 102 = .ok (.istore 12, 2) := by decide +kernel
theorem d_X2_arrange_104 : decode (yB m_X2_arrange) 104 = .ok (.iload 12, 2) := by decide +kernel
theorem d_X2_arrange_106 : decode (yB m_X2_arrange) 106 = .ok (.ifCond .lt 31, 3) := by decide +kernel
theorem d_X2_arrange_109 : decode (yB m_X2_arrange) 109 = .ok (.iload 12, 2) := by decide +kernel
theorem d_X2_arrange_111 : decode (yB m_X2_arrange) 111 = .ok (.aload_n 0, 1) := by decide +kernel
theorem d_X2_arrange_112 : decode (yB m_X2_arrange) 112 = .ok (.getfield 21, 3) := by decide +kernel
theorem d_X2_arrange_115 : decode (yB m_X2_arrange) 115 = .ok (.arraylength, 1) := by decide +kernel
theorem d_X2_arrange_116 : decode (yB m_X2_arrange) 116 = .ok (.if_icmp .ge 21, 3) := by decide +kernel
theorem d_X2_arrange_119 : decode (yB m_X2_arrange) 119 = .ok (.aload_n 0, 1) := by decide +kernel
theorem d_X2_arrange_120 : decode (yB m_X2_arrange) 120 = .ok (.getfield 21, 3) := by decide +kernel
theorem d_X2_arrange_123 : decode (yB m_X2_arrange) 123 = .ok (.iload 12, 2) := by decide +kernel
theorem d_X2_arrange_125 : decode (yB m_X2_arrange) 125 = .ok (.bipush 64, 2) := by decide +kernel
theorem d_X2_arrange_127 : decode (yB m_X2_arrange) 127 = .ok (.iload 7, 2) := by decide +kernel
theorem d_X2_arrange_129 : decode (yB m_X2_arrange) 129 = .ok (.imul, 1) := by decide +kernel
theorem d_X2_arrange_130 : decode (yB m_X2_arrange) 130 = .ok (.iload 11, 2) := by decide +kernel
theorem d_X2_arrange_132 : decode (yB m_X2_arrange) 132 = .ok (.iadd, 1) := by decide +kernel
theorem d_X2_arrange_133 : decode (yB m_X2_arrange) 133 = .ok (.iastore, 1) := by decide +kernel
theorem d_X2_arrange_134 : decode (yB m_X2_arrange) 134 = .ok (.iinc 4 1, 3) := by decide +kernel
theorem d_X2_arrange_137 : decode (yB m_X2_arrange) 137 = .ok (.iinc 10 1, 3) := by decide +kernel
theorem d_X2_arrange_140 : decode (yB m_X2_arrange) 140 = .ok (.goto (-110), 3) := by decide +kernel
theorem d_X2_arrange_143 : decode (yB m_X2_arrange) 143 = .ok (.iinc 7 1, 3) := by decide +kernel
theorem d_X2_arrange_146 : decode (yB m_X2_arrange) 146 = .ok (.goto (-137), 3) := by decide +kernel
theorem d_X2_arrange_149 : decode (yB m_X2_arrange) 149 = .ok (.iload 4, 2) := by decide +kernel
theorem d_X2_arrange_151 : decode (yB m_X2_arrange) 151 = .ok (.ireturn, 1) := by decide +kernel
def fn_X2_arrange_30 (v1 : Int64) (v3 : Int32) (k9 : Int32 → Int64 → Int32 → zD → Option (Int32 × zD)) : Nat → Int32 → Int64 → Int32 → Int64 → Int32 → zD → Option (Int32 × zD)
  | 0, _, _, _, _, _, _ => none
  | n + 1, v4, v5, v7, v8, v10, D => (if (64 : Int32) ≤ v10 then ((k9 v4 v5 (v7 + (1 : Int32)) D)) else ((if (lg_cmp v8 (0 : Int64)) = 0 then ((k9 v4 v5 (v7 + (1 : Int32)) D)) else ((fn_JJ_bitCount ((v8 &&& (-v8)) - (1 : Int64))).bind fun x5 => zlet (x5 &&& (63 : Int32)) fun x6 => zck x6 64 <| zlet (v8 &&& (((zlshl (1 : Int64) x6) ^^^ (-1 : Int64)) &&& ((gL D 95 x6.toNatClampNeg) ^^^ (-1 : Int64)))) fun x8 => zlet (v5 &&& ((zlshl (1 : Int64) x6) ^^^ (-1 : Int64))) fun x9 => zlet (v3 + v4) fun x10 => (if x10 < 0 then (((fn_X2_arrange_30 v1 v3 k9 n) v4 x9 v7 x8 (v10 + (1 : Int32)) D)) else ((if (Int32.ofNat 2176) ≤ x10 then (((fn_X2_arrange_30 v1 v3 k9 n) v4 x9 v7 x8 (v10 + (1 : Int32)) D)) else (zck x10 2176 <| zlet (sI D 96 x10.toNatClampNeg (((64 : Int32) * v7) + x6)) fun D14 => ((fn_X2_arrange_30 v1 v3 k9 n) (v4 + (1 : Int32)) x9 v7 x8 (v10 + (1 : Int32)) D14)))))))))
def fn_X2_arrange_9 (v1 : Int64) (v3 : Int32) : Nat → Int32 → Int64 → Int32 → zD → Option (Int32 × zD)
  | 0, _, _, _, _ => none
  | n + 1, v4, v5, v7, D => (if (64 : Int32) < v7 then ((some (v4, D))) else ((if (lg_cmp v5 (0 : Int64)) = 0 then ((some (v4, D))) else ((fn_X2_arrange_30 v1 v3 (fn_X2_arrange_9 v1 v3 n) zFU v4 v5 v7 v5 (0 : Int32) D)))))
def fn_X2_arrange (v1 : Int64) (v3 : Int32) (D : zD) : Option (Int32 × zD) := (fn_X2_arrange_9 v1 v3 zFU (0 : Int32) v1 (1 : Int32) D)
theorem s_X2_arrange_30 {X : zX} {Sh : zSh} {d : Nat} (hst : (zl X).stackTraces = false) (h0 : zSh0 Sh) (hd : 1 ≤ d) {v1 : Int64} {v3 : Int32} (k9 : Int32 → Int64 → Int32 → zD → Option (Int32 × zD)) (hk9 : ∀ (v4 : Int32) (v5 : Int64) (v7 : Int32) (D : zD) , Rn X m_X2_arrange (d + 1) 9 [(0, .ref 92), (3, .int v3), (4, .int v4), (5, .long v5), (7, .int v7)] [] (Sh, D) ((oI Sh) (k9 v4 v5 v7 D))) : ∀ (n : Nat) (v4 : Int32) (v5 : Int64) (v7 : Int32) (v8 : Int64) (v10 : Int32) (D : zD) , Rn X m_X2_arrange (d + 1) 30 [(0, .ref 92), (3, .int v3), (4, .int v4), (5, .long v5), (7, .int v7), (8, .long v8), (10, .int v10)] [] (Sh, D) ((oI Sh) (fn_X2_arrange_30 v1 v3 k9 n v4 v5 v7 v8 v10 D)) := by
  intro n
  induction n with
  | zero => intro v4 v5 v7 v8 v10 D; exact Rn_none rfl
  | succ n hk30 =>
    intro v4 v5 v7 v8 v10 D
    rw [fn_X2_arrange_30]
    refine r_iload (pc := 30) 6 d_X2_arrange_30 rfl ?_
    refine r_bipush (pc := 32) (64 : Int32) d_X2_arrange_32 rfl ?_
    refine r_icmp_ge (f := (oI Sh)) (pc := 34) 143 d_X2_arrange_34 (by decide) (fun c3 => ?_) (fun c3 => ?_)
    · refine r_iinc (pc := 143) ((v7 + (1 : Int32))) 4 (ls' := [(7, .int (v7 + (1 : Int32))), (0, .ref 92), (3, .int v3), (4, .int v4), (5, .long v5), (8, .long v8), (10, .int v10)]) d_X2_arrange_143 rfl rfl (Nat.le_of_ble_eq_true rfl) rfl ?_
      refine r_goto (pc := 146) 9 d_X2_arrange_146 (by decide) ?_
      refine r_pick [1, 2, 3, 4, 0] (ls' := [(0, .ref 92), (3, .int v3), (4, .int v4), (5, .long v5), (7, .int (v7 + (1 : Int32)))]) rfl ?_
      exact hk9 v4 v5 (v7 + (1 : Int32)) D 
    · refine r_lload (pc := 37) 5 d_X2_arrange_37 rfl ?_
      refine r_lconst (pc := 39) (0 : Int64) d_X2_arrange_39 rfl ?_
      refine r_lcmp (pc := 40) d_X2_arrange_40 ?_
      refine r_if_eq (f := (oI Sh)) (pc := 41) 143 d_X2_arrange_41 (by decide) (fun c4 => ?_) (fun c4 => ?_)
      · refine r_iinc (pc := 143) ((v7 + (1 : Int32))) 4 (ls' := [(7, .int (v7 + (1 : Int32))), (0, .ref 92), (3, .int v3), (4, .int v4), (5, .long v5), (8, .long v8), (10, .int v10)]) d_X2_arrange_143 rfl rfl (Nat.le_of_ble_eq_true rfl) rfl ?_
        refine r_goto (pc := 146) 9 d_X2_arrange_146 (by decide) ?_
        refine r_pick [1, 2, 3, 4, 0] (ls' := [(0, .ref 92), (3, .int v3), (4, .int v4), (5, .long v5), (7, .int (v7 + (1 : Int32)))]) rfl ?_
        exact hk9 v4 v5 (v7 + (1 : Int32)) D 
      · refine r_lload (pc := 44) 5 d_X2_arrange_44 rfl ?_
        refine r_lload (pc := 46) 5 d_X2_arrange_46 rfl ?_
        refine r_lneg (pc := 48) d_X2_arrange_48 ?_
        refine r_land (pc := 49) d_X2_arrange_49 ?_
        refine r_lconst (pc := 50) (1 : Int64) d_X2_arrange_50 rfl ?_
        refine r_lsub (pc := 51) d_X2_arrange_51 ?_
        refine q_cP (f := (oI Sh)) (av := [.long ((v8 &&& (-v8)) - (1 : Int64))]) (st := []) (z_runS ck_JJ_bitCount rfl ml_X2_90 cs_JJ_bitCount rfl (Nat.le_of_ble_eq_true rfl) d_X2_arrange_52) (s_JJ_bitCount hst h0 (by omega)) kp_I (fun x5 _ => ?_)
        refine r_bipush (pc := 55) (63 : Int32) d_X2_arrange_55 rfl ?_
        refine r_iand (pc := 57) d_X2_arrange_57 ?_
        refine r_leti (f := (oI Sh)) (fun x6 => ?_)
        refine r_istore (pc := 58) (ls' := [(11, .int x6), (0, .ref 92), (3, .int v3), (4, .int v4), (5, .long v5), (7, .int v7), (8, .long v8), (10, .int v10)]) d_X2_arrange_58 (Nat.le_of_ble_eq_true rfl) rfl ?_
        refine r_lload (pc := 60) 6 d_X2_arrange_60 rfl ?_
        refine r_lconst (pc := 62) (1 : Int64) d_X2_arrange_62 rfl ?_
        refine r_iload (pc := 63) 0 d_X2_arrange_63 rfl ?_
        refine r_lshl (pc := 65) d_X2_arrange_65 ?_
        refine r_ldc2 (pc := 66) d_X2_arrange_66 cc_X2_88 ?_
        refine r_lxor (pc := 69) d_X2_arrange_69 ?_
        refine r_aload_n (pc := 70) 1 d_X2_arrange_70 rfl rfl ?_
        refine r_getR (pc := 71) g_X2_18 (K_92 h0) rfl (R_92_2 h0) d_X2_arrange_71 ?_
        refine r_iload (pc := 74) 0 d_X2_arrange_74 rfl ?_
        refine r_ck (f := (oI Sh)) rfl (fun hc7 => ?_)
        refine q_lald (pc := 76) (j := x6.toNatClampNeg) (K_95 h0) hc7 rfl d_X2_arrange_76 ?_
        refine r_ldc2 (pc := 77) d_X2_arrange_77 cc_X2_88 ?_
        refine r_lxor (pc := 80) d_X2_arrange_80 ?_
        refine r_land (pc := 81) d_X2_arrange_81 ?_
        refine r_land (pc := 82) d_X2_arrange_82 ?_
        refine r_letj (f := (oI Sh)) (fun x8 => ?_)
        refine r_lstore (pc := 83) (ls' := [(8, .long x8), (11, .int x6), (0, .ref 92), (3, .int v3), (4, .int v4), (5, .long v5), (7, .int v7), (10, .int v10)]) d_X2_arrange_83 (Nat.le_of_ble_eq_true rfl) rfl ?_
        refine r_lload (pc := 85) 5 d_X2_arrange_85 rfl ?_
        refine r_lconst (pc := 87) (1 : Int64) d_X2_arrange_87 rfl ?_
        refine r_iload (pc := 88) 1 d_X2_arrange_88 rfl ?_
        refine r_lshl (pc := 90) d_X2_arrange_90 ?_
        refine r_ldc2 (pc := 91) d_X2_arrange_91 cc_X2_88 ?_
        refine r_lxor (pc := 94) d_X2_arrange_94 ?_
        refine r_land (pc := 95) d_X2_arrange_95 ?_
        refine r_letj (f := (oI Sh)) (fun x9 => ?_)
        refine r_lstore (pc := 96) (ls' := [(5, .long x9), (8, .long x8), (11, .int x6), (0, .ref 92), (3, .int v3), (4, .int v4), (7, .int v7), (10, .int v10)]) d_X2_arrange_96 (Nat.le_of_ble_eq_true rfl) rfl ?_
        refine r_iload_n (pc := 98) 4 d_X2_arrange_98 rfl rfl ?_
        refine r_iload (pc := 99) 5 d_X2_arrange_99 rfl ?_
        refine r_iadd (pc := 101) d_X2_arrange_101 ?_
        refine r_leti (f := (oI Sh)) (fun x10 => ?_)
        refine r_istore (pc := 102) (ls' := [(12, .int x10), (5, .long x9), (8, .long x8), (11, .int x6), (0, .ref 92), (3, .int v3), (4, .int v4), (7, .int v7), (10, .int v10)]) d_X2_arrange_102 (Nat.le_of_ble_eq_true rfl) rfl ?_
        refine r_iload (pc := 104) 0 d_X2_arrange_104 rfl ?_
        refine r_if_lt (f := (oI Sh)) (pc := 106) 137 d_X2_arrange_106 (by decide) (fun c11 => ?_) (fun c11 => ?_)
        · refine r_iinc (pc := 137) ((v10 + (1 : Int32))) 8 (ls' := [(10, .int (v10 + (1 : Int32))), (12, .int x10), (5, .long x9), (8, .long x8), (11, .int x6), (0, .ref 92), (3, .int v3), (4, .int v4), (7, .int v7)]) d_X2_arrange_137 rfl rfl (Nat.le_of_ble_eq_true rfl) rfl ?_
          refine r_goto (pc := 140) 30 d_X2_arrange_140 (by decide) ?_
          refine r_pick [5, 6, 7, 2, 8, 3, 0] (ls' := [(0, .ref 92), (3, .int v3), (4, .int v4), (5, .long x9), (7, .int v7), (8, .long x8), (10, .int (v10 + (1 : Int32)))]) rfl ?_
          exact hk30 v4 x9 v7 x8 (v10 + (1 : Int32)) D 
        · refine r_iload (pc := 109) 0 d_X2_arrange_109 rfl ?_
          refine r_aload_n (pc := 111) 4 d_X2_arrange_111 rfl rfl ?_
          refine r_getR (pc := 112) g_X2_21 (K_92 h0) rfl (R_92_3 h0) d_X2_arrange_112 ?_
          refine r_alen (pc := 115) (K_96 h0) (by decide) d_X2_arrange_115 ?_
          refine r_icmp_ge (f := (oI Sh)) (pc := 116) 137 d_X2_arrange_116 (by decide) (fun c12 => ?_) (fun c12 => ?_)
          · refine r_iinc (pc := 137) ((v10 + (1 : Int32))) 8 (ls' := [(10, .int (v10 + (1 : Int32))), (12, .int x10), (5, .long x9), (8, .long x8), (11, .int x6), (0, .ref 92), (3, .int v3), (4, .int v4), (7, .int v7)]) d_X2_arrange_137 rfl rfl (Nat.le_of_ble_eq_true rfl) rfl ?_
            refine r_goto (pc := 140) 30 d_X2_arrange_140 (by decide) ?_
            refine r_pick [5, 6, 7, 2, 8, 3, 0] (ls' := [(0, .ref 92), (3, .int v3), (4, .int v4), (5, .long x9), (7, .int v7), (8, .long x8), (10, .int (v10 + (1 : Int32)))]) rfl ?_
            exact hk30 v4 x9 v7 x8 (v10 + (1 : Int32)) D 
          · refine r_aload_n (pc := 119) 4 d_X2_arrange_119 rfl rfl ?_
            refine r_getR (pc := 120) g_X2_21 (K_92 h0) rfl (R_92_3 h0) d_X2_arrange_120 ?_
            refine r_iload (pc := 123) 0 d_X2_arrange_123 rfl ?_
            refine r_bipush (pc := 125) (64 : Int32) d_X2_arrange_125 rfl ?_
            refine r_iload (pc := 127) 7 d_X2_arrange_127 rfl ?_
            refine r_imul (pc := 129) d_X2_arrange_129 ?_
            refine r_iload (pc := 130) 3 d_X2_arrange_130 rfl ?_
            refine r_iadd (pc := 132) d_X2_arrange_132 ?_
            refine r_ck (f := (oI Sh)) rfl (fun hc13 => ?_)
            refine q_iast (pc := 133) (j := x10.toNatClampNeg) (K_96 h0) hc13 rfl  d_X2_arrange_133 ?_
            refine r_letD (f := (oI Sh)) (fun D14 => ?_)
            refine r_iinc (pc := 134) ((v4 + (1 : Int32))) 6 (ls' := [(4, .int (v4 + (1 : Int32))), (12, .int x10), (5, .long x9), (8, .long x8), (11, .int x6), (0, .ref 92), (3, .int v3), (7, .int v7), (10, .int v10)]) d_X2_arrange_134 rfl rfl (Nat.le_of_ble_eq_true rfl) rfl ?_
            refine r_iinc (pc := 137) ((v10 + (1 : Int32))) 8 (ls' := [(10, .int (v10 + (1 : Int32))), (4, .int (v4 + (1 : Int32))), (12, .int x10), (5, .long x9), (8, .long x8), (11, .int x6), (0, .ref 92), (3, .int v3), (7, .int v7)]) d_X2_arrange_137 rfl rfl (Nat.le_of_ble_eq_true rfl) rfl ?_
            refine r_goto (pc := 140) 30 d_X2_arrange_140 (by decide) ?_
            refine r_pick [6, 7, 1, 3, 8, 4, 0] (ls' := [(0, .ref 92), (3, .int v3), (4, .int (v4 + (1 : Int32))), (5, .long x9), (7, .int v7), (8, .long x8), (10, .int (v10 + (1 : Int32)))]) rfl ?_
            exact hk30 (v4 + (1 : Int32)) x9 v7 x8 (v10 + (1 : Int32)) D14 
theorem s_X2_arrange_9 {X : zX} {Sh : zSh} {d : Nat} (hst : (zl X).stackTraces = false) (h0 : zSh0 Sh) (hd : 1 ≤ d) {v1 : Int64} {v3 : Int32} : ∀ (n : Nat) (v4 : Int32) (v5 : Int64) (v7 : Int32) (D : zD) , Rn X m_X2_arrange (d + 1) 9 [(0, .ref 92), (3, .int v3), (4, .int v4), (5, .long v5), (7, .int v7)] [] (Sh, D) ((oI Sh) (fn_X2_arrange_9 v1 v3 n v4 v5 v7 D)) := by
  intro n
  induction n with
  | zero => intro v4 v5 v7 D; exact Rn_none rfl
  | succ n hk9 =>
    intro v4 v5 v7 D
    rw [fn_X2_arrange_9]
    refine r_iload (pc := 9) 4 d_X2_arrange_9 rfl ?_
    refine r_bipush (pc := 11) (64 : Int32) d_X2_arrange_11 rfl ?_
    refine r_icmp_gt (f := (oI Sh)) (pc := 13) 149 d_X2_arrange_13 (by decide) (fun c1 => ?_) (fun c1 => ?_)
    · refine r_iload (pc := 149) 2 d_X2_arrange_149 rfl ?_
      exact r_iret (pc := 151) rfl d_X2_arrange_151
    · refine r_lload (pc := 16) 3 d_X2_arrange_16 rfl ?_
      refine r_lconst (pc := 18) (0 : Int64) d_X2_arrange_18 rfl ?_
      refine r_lcmp (pc := 19) d_X2_arrange_19 ?_
      refine r_if_eq (f := (oI Sh)) (pc := 20) 149 d_X2_arrange_20 (by decide) (fun c2 => ?_) (fun c2 => ?_)
      · refine r_iload (pc := 149) 2 d_X2_arrange_149 rfl ?_
        exact r_iret (pc := 151) rfl d_X2_arrange_151
      · refine r_lload (pc := 23) 3 d_X2_arrange_23 rfl ?_
        refine r_lstore (pc := 25) (ls' := [(8, .long v5), (0, .ref 92), (3, .int v3), (4, .int v4), (5, .long v5), (7, .int v7)]) d_X2_arrange_25 (Nat.le_of_ble_eq_true rfl) rfl ?_
        refine r_iconst (pc := 27) (0 : Int32) d_X2_arrange_27 rfl ?_
        refine r_istore (pc := 28) (ls' := [(10, .int (0 : Int32)), (8, .long v5), (0, .ref 92), (3, .int v3), (4, .int v4), (5, .long v5), (7, .int v7)]) d_X2_arrange_28 (Nat.le_of_ble_eq_true rfl) rfl ?_
        refine r_pick [2, 3, 4, 5, 6, 1, 0] (ls' := [(0, .ref 92), (3, .int v3), (4, .int v4), (5, .long v5), (7, .int v7), (8, .long v5), (10, .int (0 : Int32))]) rfl ?_
        exact s_X2_arrange_30 hst h0 hd (fn_X2_arrange_9 v1 v3 n) hk9 zFU  v4 v5 v7 v5 (0 : Int32) D
theorem s_X2_arrange {X : zX} {Sh : zSh} {d : Nat} (hst : (zl X).stackTraces = false) (h0 : zSh0 Sh) (hd : 2 ≤ d) {v1 : Int64} {v3 : Int32} {D : zD} : Sd X m_X2_arrange d [.ref 92, .long v1, .int v3] (Sh, D) ((oI Sh) (fn_X2_arrange v1 v3 D)) := by
  obtain ⟨d, rfl⟩ : ∃ e, d = e + 1 := ⟨d - 1, by omega⟩
  replace hd : 1 ≤ d := by omega
  refine z_body ck_X2_arrange rfl (Nat.le_of_ble_eq_true rfl) rfl hst ?_
  rw [fn_X2_arrange]
  show Rn X m_X2_arrange (d + 1) 0 [(0, .ref 92), (1, .long v1), (3, .int v3)] [] (Sh, D) _
  refine r_iconst (pc := 0) (0 : Int32) d_X2_arrange_0 rfl ?_
  refine r_istore (pc := 1) (ls' := [(4, .int (0 : Int32)), (0, .ref 92), (1, .long v1), (3, .int v3)]) d_X2_arrange_1 (Nat.le_of_ble_eq_true rfl) rfl ?_
  refine r_lload_n (pc := 3) 2 d_X2_arrange_3 rfl rfl ?_
  refine r_lstore (pc := 4) (ls' := [(5, .long v1), (4, .int (0 : Int32)), (0, .ref 92), (1, .long v1), (3, .int v3)]) d_X2_arrange_4 (Nat.le_of_ble_eq_true rfl) rfl ?_
  refine r_iconst (pc := 6) (1 : Int32) d_X2_arrange_6 rfl ?_
  refine r_istore (pc := 7) (ls' := [(7, .int (1 : Int32)), (5, .long v1), (4, .int (0 : Int32)), (0, .ref 92), (1, .long v1), (3, .int v3)]) d_X2_arrange_7 (Nat.le_of_ble_eq_true rfl) rfl ?_
  refine r_pick [3, 5, 2, 1, 0] (ls' := [(0, .ref 92), (3, .int v3), (4, .int (0 : Int32)), (5, .long v1), (7, .int (1 : Int32))]) rfl ?_
  exact s_X2_arrange_9 hst h0 hd zFU  (0 : Int32) v1 (1 : Int32) D
/-! CoveredSigns$Codes.grow -/
theorem d_X2_grow_0 : decode (yB m_X2_grow) 0 = .ok (.aload_n 0, 1) := by decide +kernel
theorem d_X2_grow_1 : decode (yB m_X2_grow) 1 = .ok (.aload_n 0, 1) := by decide +kernel
theorem d_X2_grow_2 : decode (yB m_X2_grow) 2 = .ok (.getfield 57, 3) := by decide +kernel
theorem d_X2_grow_5 : decode (yB m_X2_grow) 5 = .ok (.iload_n 3, 1) := by decide +kernel
theorem d_X2_grow_6 : decode (yB m_X2_grow) 6 = .ok (.invokestatic 76, 3) := by decide +kernel
theorem d_X2_grow_9 : decode (yB m_X2_grow) 9 = .ok (.putfield 57, 3) := by decide +kernel
theorem d_X2_grow_12 : decode (yB m_X2_grow) 12 = .ok (.iload_n 3, 1) := by decide +kernel
theorem d_X2_grow_13 : decode (yB m_X2_grow) 13 = .ok (.ifCond .lt 9, 3) := by decide +kernel
theorem d_X2_grow_16 : decode (yB m_X2_grow) 16 = .ok (.iload_n 3, 1) := by decide +kernel
theorem d_X2_grow_17 : decode (yB m_X2_grow) 17 = .ok (.bipush 34, 2) := by decide +kernel
theorem d_X2_grow_19 : decode (yB m_X2_grow) 19 = .ok (.if_icmp .lt 4, 3) := by decide +kernel
theorem d_X2_grow_22 : decode (yB m_X2_grow) 22 = .ok (.return_, 1) := by decide +kernel
theorem d_X2_grow_23 : decode (yB m_X2_grow) 23 = .ok (.aload_n 0, 1) := by decide +kernel
theorem d_X2_grow_24 : decode (yB m_X2_grow) 24 = .ok (.lload_n 1, 1) := by decide +kernel
theorem d_X2_grow_25 : decode (yB m_X2_grow) 25 = .ok (.iload_n 3, 1) := by decide +kernel
theorem d_X2_grow_26 : decode (yB m_X2_grow) 26 = .ok (.bipush 64, 2) := by decide +kernel
theorem d_X2_grow_28 : decode (yB m_X2_grow) 28 = .ok (.imul, 1) := by decide +kernel
theorem d_X2_grow_29 : decode (yB m_X2_grow) 29 = .ok (.invokevirtual 84, 3) := by decide +kernel
theorem d_X2_grow_32 : decode (yB m_X2_grow) 32 = .ok (.istore 4, 2) := by decide +kernel
theorem d_X2_grow_34 : decode (yB m_X2_grow) 34 = .ok (.lload_n 1, 1) := by decide +kernel
theorem d_X2_grow_35 : decode (yB m_X2_grow) 35 = .ok (.lstore 5, 2) := by decide +kernel
theorem d_X2_grow_37 : decode (yB m_X2_grow) 37 = .ok (.iload 4, 2) := by decide +kernel
theorem d_X2_grow_39 : decode (yB m_X2_grow) 39 = .ok (.iconst 1, 1) := by decide +kernel
theorem d_X2_grow_40 : decode (yB m_X2_grow) 40 = .ok (.isub, 1) := by decide +kernel
theorem d_X2_grow_41 : decode (yB m_X2_grow) 41 = .ok (.istore 7, 2) := by decide +kernel
theorem d_X2_grow_43 : decode (yB m_X2_grow) 43 = .ok (.iload 7, 2) := by decide +kernel
theorem d_X2_grow_45 : decode (yB m_X2_grow) 45 = .ok (.ifCond .lt 93, 3) := by decide +kernel
theorem d_X2_grow_48 : decode (yB m_X2_grow) 48 = .ok (.iload 7, 2) := by decide +kernel
theorem d_X2_grow_50 : decode (yB m_X2_grow) 50 = .ok (.bipush 64, 2) := by decide +kernel
theorem d_X2_grow_52 : decode (yB m_X2_grow) 52 = .ok (.if_icmp .ge 86, 3) := by decide +kernel
theorem d_X2_grow_55 : decode (yB m_X2_grow) 55 = .ok (.aload_n 0, 1) := by decide +kernel
theorem d_X2_grow_56 : decode (yB m_X2_grow) 56 = .ok (.getfield 21, 3) := by decide +kernel
theorem d_X2_grow_59 : decode (yB m_X2_grow) 59 = .ok (.iload_n 3, 1) := by decide +kernel
theorem d_X2_grow_60 : decode (yB m_X2_grow) 60 = .ok (.bipush 64, 2) := by decide +kernel
theorem d_X2_grow_62 : decode (yB m_X2_grow) 62 = .ok (.imul, 1) := by decide +kernel
theorem d_X2_grow_63 : decode (yB m_X2_grow) 63 = .ok (.iload 7, 2) := by decide +kernel
theorem d_X2_grow_65 : decode (yB m_X2_grow) 65 = .ok (.iadd, 1) := by decide +kernel
theorem d_X2_grow_66 : decode (yB m_X2_grow) 66 = .ok (.iaload, 1) := by decide +kernel
theorem d_X2_grow_67 : decode (yB m_X2_grow) 67 = .ok (.istore 8, 2) := by decide +kernel
theorem d_X2_grow_69 : decode (yB m_X2_grow) 69 = .ok (.aload_n 0, 1) := by decide +kernel
theorem d_X2_grow_70 : decode (yB m_X2_grow) 70 = .ok (.getfield 57, 3) := by decide +kernel
theorem d_X2_grow_73 : decode (yB m_X2_grow) 73 = .ok (.aload_n 0, 1) := by decide +kernel
theorem d_X2_grow_74 : decode (yB m_X2_grow) 74 = .ok (.getfield 69, 3) := by decide +kernel
theorem d_X2_grow_77 : decode (yB m_X2_grow) 77 = .ok (.if_icmp .ge 17, 3) := by decide +kernel
theorem d_X2_grow_80 : decode (yB m_X2_grow) 80 = .ok (.iload_n 3, 1) := by decide +kernel
theorem d_X2_grow_81 : decode (yB m_X2_grow) 81 = .ok (.iload 8, 2) := by decide +kernel
theorem d_X2_grow_83 : decode (yB m_X2_grow) 83 = .ok (.bipush 6, 2) := by decide +kernel
theorem d_X2_grow_85 : decode (yB m_X2_grow) 85 = .ok (.ishr, 1) := by decide +kernel
theorem d_X2_grow_86 : decode (yB m_X2_grow) 86 = .ok (.iadd, 1) := by decide +kernel
theorem d_X2_grow_87 : decode (yB m_X2_grow) 87 = .ok (.aload_n 0, 1) := by decide +kernel
theorem d_X2_grow_88 : decode (yB m_X2_grow) 88 = .ok (.getfield 57, 3) := by decide +kernel
theorem d_X2_grow_91 : decode (yB m_X2_grow) 91 = .ok (.if_icmp .gt 4, 3) := by decide +kernel
theorem d_X2_grow_94 : decode (yB m_X2_grow) 94 = .ok (.return_, 1) := by decide +kernel
theorem d_X2_grow_95 : decode (yB m_X2_grow) 95 = .ok (.iload 8, 2) := by decide +kernel
theorem d_X2_grow_97 : decode (yB m_X2_grow) 97 = .ok (.bipush 63, 2) := by decide +kernel
theorem d_X2_grow_99 : decode (yB m_X2_grow) 99 = .ok (.iand, 1) := by decide +kernel
theorem d_X2_grow_100 : decode (yB m_X2_grow) 100 = .ok (.istore 9, 2) := by decide +kernel
theorem d_X2_grow_102 : decode (yB m_X2_grow) 102 = .ok (.aload_n 0, 1) := by decide +kernel
theorem d_X2_grow_103 : decode (yB m_X2_grow) 103 = .ok (.lload 5, 2) := by decide +kernel
theorem d_X2_grow_105 : decode (yB m_X2_grow) 105 = .ok (.aload_n 0, 1) := by decide +kernel
theorem d_X2_grow_106 : decode (yB m_X2_grow) 106 = .ok (.getfield 18, 3) := by decide +kernel
theorem d_X2_grow_109 : decode (yB m_X2_grow) 109 = .ok (.iload 9, 2) := by decide +kernel
theorem d_X2_grow_111 : decode (yB m_X2_grow) 111 = .ok (.laload, 1) := by decide +kernel
theorem d_X2_grow_112 : decode (yB m_X2_grow) 112 = .ok (.land, 1) := by decide +kernel
theorem d_X2_grow_113 : decode (yB m_X2_grow) 113 = .ok (.iload_n 3, 1) := by decide +kernel
theorem d_X2_grow_114 : decode (yB m_X2_grow) 114 = .ok (.iconst 1, 1) := by decide +kernel
theorem d_X2_grow_115 : decode (yB m_X2_grow) 115 = .ok (.iadd, 1) := by decide +kernel
theorem d_X2_grow_116 : decode (yB m_X2_grow) 116 = .ok (.invokevirtual 72, 3) := by decide +kernel
theorem d_X2_grow_119 : decode (yB m_X2_grow) 119 = .ok (.lload 5, 2) := by decide +kernel
theorem d_X2_grow_121 : decode (yB m_X2_grow) 121 = .ok (.lconst 1, 1) := by decide +kernel
theorem d_X2_grow_122 : decode (yB m_X2_grow) 122 = .ok (.iload 9, 2) := by decide +kernel
theorem d_X2_grow_124 : decode (yB m_X2_grow) 124 = .ok (.lshl, 1) := by decide +kernel
theorem d_X2_grow_125 : decode (yB m_X2_grow) 125 = .ok (.ldc2_w 88, 3) := by decide +kernel
theorem d_X2_grow_128 : decode (yB m_X2_grow) 128 = .ok (.lxor, 1) := by decide +kernel
theorem d_X2_grow_129 : decode (yB m_X2_grow) 129 = .ok (.land, 1) := by decide +kernel
theorem d_X2_grow_130 : decode (yB m_X2_grow) 130 = .ok (.lstore 5, 2) := by decide +kernel
theorem d_X2_grow_132 : decode (yB m_X2_grow) 132 = .ok (.iinc 7 (-1), 3) := by decide +kernel
theorem d_X2_grow_135 : decode (yB m_X2_grow) 135 = .ok (.goto (-92), 3) := by decide +kernel
theorem d_X2_grow_138 : decode (yB m_X2_grow) 138 = .ok (.return_, 1) := by decide +kernel
def fn_X2_grow_43 (f_X2_grow : Int64 → Int32 → zD → Option zD) (v1 : Int64) (v3 : Int32) : Nat → Int64 → Int32 → zD → Option zD
  | 0, _, _, _ => none
  | n + 1, v5, v7, D => (if v7 < 0 then ((some D)) else ((if (64 : Int32) ≤ v7 then ((some D)) else (zck ((v3 * (64 : Int32)) + v7) 2176 <| zlet (gI D 96 ((v3 * (64 : Int32)) + v7).toNatClampNeg) fun x9 => (if (gI D 92 5) ≤ (gI D 92 4) then ((some D)) else ((if (gI D 92 4) < (v3 + (x9 >>> ((6 : Int32) &&& 31))) then (zlet (x9 &&& (63 : Int32)) fun x12 => zck x12 64 <| (f_X2_grow (v5 &&& (gL D 95 x12.toNatClampNeg)) (v3 + (1 : Int32)) D).bind fun D14 => zlet (v5 &&& ((zlshl (1 : Int64) x12) ^^^ (-1 : Int64))) fun x15 => ((fn_X2_grow_43 f_X2_grow v1 v3 n) x15 (v7 + (-1 : Int32)) D14)) else ((some D)))))))))
def fn_X2_grow (f_X2_grow : Int64 → Int32 → zD → Option zD) (v1 : Int64) (v3 : Int32) (D : zD) : Option zD := zlet (sI D 92 4 (zmx (gI D 92 4) v3)) fun D1 => (if v3 < 0 then ((some D1)) else ((if v3 < (34 : Int32) then ((fn_X2_arrange v1 (v3 * (64 : Int32)) D1).bind fun q4 => zlet (q4.1 - (1 : Int32)) fun x5 => (fn_X2_grow_43 f_X2_grow v1 v3 zFU v1 x5 q4.2)) else ((some D1)))))
theorem s_X2_grow_43 {X : zX} {Sh : zSh} {d : Nat} (hst : (zl X).stackTraces = false) (h0 : zSh0 Sh) (hd : 2 ≤ d) {v1 : Int64} {v3 : Int32} (f_X2_grow : Int64 → Int32 → zD → Option zD) (hf_X2_grow : ∀ (v1 : Int64) (v3 : Int32) (D : zD), Sd X m_X2_grow d [.ref 92, .long v1, .int v3] (Sh, D) ((oV Sh) (f_X2_grow v1 v3 D))) : ∀ (n : Nat) (v5 : Int64) (v7 : Int32) (D : zD) , Rn X m_X2_grow (d + 1) 43 [(0, .ref 92), (3, .int v3), (5, .long v5), (7, .int v7)] [] (Sh, D) ((oV Sh) (fn_X2_grow_43 f_X2_grow v1 v3 n v5 v7 D)) := by
  intro n
  induction n with
  | zero => intro v5 v7 D; exact Rn_none rfl
  | succ n hk43 =>
    intro v5 v7 D
    rw [fn_X2_grow_43]
    refine r_iload (pc := 43) 3 d_X2_grow_43 rfl ?_
    refine r_if_lt (f := (oV Sh)) (pc := 45) 138 d_X2_grow_45 (by decide) (fun c6 => ?_) (fun c6 => ?_)
    · exact r_vret (pc := 138) rfl d_X2_grow_138
    · refine r_iload (pc := 48) 3 d_X2_grow_48 rfl ?_
      refine r_bipush (pc := 50) (64 : Int32) d_X2_grow_50 rfl ?_
      refine r_icmp_ge (f := (oV Sh)) (pc := 52) 138 d_X2_grow_52 (by decide) (fun c7 => ?_) (fun c7 => ?_)
      · exact r_vret (pc := 138) rfl d_X2_grow_138
      · refine r_aload_n (pc := 55) 0 d_X2_grow_55 rfl rfl ?_
        refine r_getR (pc := 56) g_X2_21 (K_92 h0) rfl (R_92_3 h0) d_X2_grow_56 ?_
        refine r_iload_n (pc := 59) 1 d_X2_grow_59 rfl rfl ?_
        refine r_bipush (pc := 60) (64 : Int32) d_X2_grow_60 rfl ?_
        refine r_imul (pc := 62) d_X2_grow_62 ?_
        refine r_iload (pc := 63) 3 d_X2_grow_63 rfl ?_
        refine r_iadd (pc := 65) d_X2_grow_65 ?_
        refine r_ck (f := (oV Sh)) rfl (fun hc8 => ?_)
        refine q_iald (pc := 66) (j := ((v3 * (64 : Int32)) + v7).toNatClampNeg) (K_96 h0) hc8 rfl d_X2_grow_66 ?_
        refine r_leti (f := (oV Sh)) (fun x9 => ?_)
        refine r_istore (pc := 67) (ls' := [(8, .int x9), (0, .ref 92), (3, .int v3), (5, .long v5), (7, .int v7)]) d_X2_grow_67 (Nat.le_of_ble_eq_true rfl) rfl ?_
        refine r_aload_n (pc := 69) 1 d_X2_grow_69 rfl rfl ?_
        refine q_gI (pc := 70) g_X2_57 (K_92 h0) rfl d_X2_grow_70 ?_
        refine r_aload_n (pc := 73) 1 d_X2_grow_73 rfl rfl ?_
        refine q_gI (pc := 74) g_X2_69 (K_92 h0) rfl d_X2_grow_74 ?_
        refine r_icmp_ge (f := (oV Sh)) (pc := 77) 94 d_X2_grow_77 (by decide) (fun c10 => ?_) (fun c10 => ?_)
        · exact r_vret (pc := 94) rfl d_X2_grow_94
        · refine r_iload_n (pc := 80) 2 d_X2_grow_80 rfl rfl ?_
          refine r_iload (pc := 81) 0 d_X2_grow_81 rfl ?_
          refine r_bipush (pc := 83) (6 : Int32) d_X2_grow_83 rfl ?_
          refine r_ishr (pc := 85) d_X2_grow_85 ?_
          refine r_iadd (pc := 86) d_X2_grow_86 ?_
          refine r_aload_n (pc := 87) 1 d_X2_grow_87 rfl rfl ?_
          refine q_gI (pc := 88) g_X2_57 (K_92 h0) rfl d_X2_grow_88 ?_
          refine r_icmp_gt (f := (oV Sh)) (pc := 91) 95 d_X2_grow_91 (by decide) (fun c11 => ?_) (fun c11 => ?_)
          · refine r_iload (pc := 95) 0 d_X2_grow_95 rfl ?_
            refine r_bipush (pc := 97) (63 : Int32) d_X2_grow_97 rfl ?_
            refine r_iand (pc := 99) d_X2_grow_99 ?_
            refine r_leti (f := (oV Sh)) (fun x12 => ?_)
            refine r_istore (pc := 100) (ls' := [(9, .int x12), (8, .int x9), (0, .ref 92), (3, .int v3), (5, .long v5), (7, .int v7)]) d_X2_grow_100 (Nat.le_of_ble_eq_true rfl) rfl ?_
            refine r_aload_n (pc := 102) 2 d_X2_grow_102 rfl rfl ?_
            refine r_lload (pc := 103) 4 d_X2_grow_103 rfl ?_
            refine r_aload_n (pc := 105) 2 d_X2_grow_105 rfl rfl ?_
            refine r_getR (pc := 106) g_X2_18 (K_92 h0) rfl (R_92_2 h0) d_X2_grow_106 ?_
            refine r_iload (pc := 109) 0 d_X2_grow_109 rfl ?_
            refine r_ck (f := (oV Sh)) rfl (fun hc13 => ?_)
            refine q_lald (pc := 111) (j := x12.toNatClampNeg) (K_95 h0) hc13 rfl d_X2_grow_111 ?_
            refine r_land (pc := 112) d_X2_grow_112 ?_
            refine r_iload_n (pc := 113) 3 d_X2_grow_113 rfl rfl ?_
            refine r_iconst (pc := 114) (1 : Int32) d_X2_grow_114 rfl ?_
            refine r_iadd (pc := 115) d_X2_grow_115 ?_
            refine q_cV (f := (oV Sh)) (av := [.ref 92, .long (v5 &&& (gL D 95 x12.toNatClampNeg)), .int (v3 + (1 : Int32))]) (st := []) (z_runV ck_X2_grow rfl ml_X2_72 ci_X2_grow cv_X2_grow (K_92 h0) (ci := 2) rfl rfl (Nat.le_of_ble_eq_true rfl) d_X2_grow_116) (hf_X2_grow (v5 &&& (gL D 95 x12.toNatClampNeg)) (v3 + (1 : Int32)) D) kp_V (fun D14 _ => ?_)
            refine r_lload (pc := 119) 4 d_X2_grow_119 rfl ?_
            refine r_lconst (pc := 121) (1 : Int64) d_X2_grow_121 rfl ?_
            refine r_iload (pc := 122) 0 d_X2_grow_122 rfl ?_
            refine r_lshl (pc := 124) d_X2_grow_124 ?_
            refine r_ldc2 (pc := 125) d_X2_grow_125 cc_X2_88 ?_
            refine r_lxor (pc := 128) d_X2_grow_128 ?_
            refine r_land (pc := 129) d_X2_grow_129 ?_
            refine r_letj (f := (oV Sh)) (fun x15 => ?_)
            refine r_lstore (pc := 130) (ls' := [(5, .long x15), (9, .int x12), (8, .int x9), (0, .ref 92), (3, .int v3), (7, .int v7)]) d_X2_grow_130 (Nat.le_of_ble_eq_true rfl) rfl ?_
            refine r_iinc (pc := 132) ((v7 + (-1 : Int32))) 5 (ls' := [(7, .int (v7 + (-1 : Int32))), (5, .long x15), (9, .int x12), (8, .int x9), (0, .ref 92), (3, .int v3)]) d_X2_grow_132 rfl rfl (Nat.le_of_ble_eq_true rfl) rfl ?_
            refine r_goto (pc := 135) 43 d_X2_grow_135 (by decide) ?_
            refine r_pick [4, 5, 1, 0] (ls' := [(0, .ref 92), (3, .int v3), (5, .long x15), (7, .int (v7 + (-1 : Int32)))]) rfl ?_
            exact hk43 x15 (v7 + (-1 : Int32)) D14 
          · exact r_vret (pc := 94) rfl d_X2_grow_94
theorem b_X2_grow {X : zX} {Sh : zSh} {d : Nat} (hst : (zl X).stackTraces = false) (h0 : zSh0 Sh) (hd : 2 ≤ d) {v1 : Int64} {v3 : Int32} (f_X2_grow : Int64 → Int32 → zD → Option zD) (hf_X2_grow : ∀ (v1 : Int64) (v3 : Int32) (D : zD), Sd X m_X2_grow d [.ref 92, .long v1, .int v3] (Sh, D) ((oV Sh) (f_X2_grow v1 v3 D))) {D : zD} : Sd X m_X2_grow (d + 1) [.ref 92, .long v1, .int v3] (Sh, D) ((oV Sh) (fn_X2_grow f_X2_grow v1 v3 D)) := by
  refine z_body ck_X2_grow rfl (Nat.le_of_ble_eq_true rfl) rfl hst ?_
  rw [fn_X2_grow]
  show Rn X m_X2_grow (d + 1) 0 [(0, .ref 92), (1, .long v1), (3, .int v3)] [] (Sh, D) _
  refine r_aload_n (pc := 0) 0 d_X2_grow_0 rfl rfl ?_
  refine r_aload_n (pc := 1) 0 d_X2_grow_1 rfl rfl ?_
  refine q_gI (pc := 2) g_X2_57 (K_92 h0) rfl d_X2_grow_2 ?_
  refine r_iload_n (pc := 5) 2 d_X2_grow_5 rfl rfl ?_
  refine r_mmax (pc := 6) ml_X2_76 (by omega) (Nat.le_of_ble_eq_true rfl) d_X2_grow_6 ?_
  refine r_putI (pc := 9) p_X2_57 (K_92 h0) rfl (Or.inl rfl) d_X2_grow_9 ?_
  refine r_letD (f := (oV Sh)) (fun D1 => ?_)
  refine r_iload_n (pc := 12) 2 d_X2_grow_12 rfl rfl ?_
  refine r_if_lt (f := (oV Sh)) (pc := 13) 22 d_X2_grow_13 (by decide) (fun c2 => ?_) (fun c2 => ?_)
  · exact r_vret (pc := 22) rfl d_X2_grow_22
  · refine r_iload_n (pc := 16) 2 d_X2_grow_16 rfl rfl ?_
    refine r_bipush (pc := 17) (34 : Int32) d_X2_grow_17 rfl ?_
    refine r_icmp_lt (f := (oV Sh)) (pc := 19) 23 d_X2_grow_19 (by decide) (fun c3 => ?_) (fun c3 => ?_)
    · refine r_aload_n (pc := 23) 0 d_X2_grow_23 rfl rfl ?_
      refine r_lload_n (pc := 24) 1 d_X2_grow_24 rfl rfl ?_
      refine r_iload_n (pc := 25) 2 d_X2_grow_25 rfl rfl ?_
      refine r_bipush (pc := 26) (64 : Int32) d_X2_grow_26 rfl ?_
      refine r_imul (pc := 28) d_X2_grow_28 ?_
      refine q_cI (f := (oV Sh)) (av := [.ref 92, .long v1, .int (v3 * (64 : Int32))]) (st := []) (z_runV ck_X2_arrange rfl ml_X2_84 ci_X2_arrange cv_X2_arrange (K_92 h0) (ci := 2) rfl rfl (Nat.le_of_ble_eq_true rfl) d_X2_grow_29) (s_X2_arrange hst h0 (by omega)) kp_V (fun q4 _ => ?_)
      refine r_istore (pc := 32) (ls' := [(4, .int q4.1), (0, .ref 92), (1, .long v1), (3, .int v3)]) d_X2_grow_32 (Nat.le_of_ble_eq_true rfl) rfl ?_
      refine r_lload_n (pc := 34) 2 d_X2_grow_34 rfl rfl ?_
      refine r_lstore (pc := 35) (ls' := [(5, .long v1), (4, .int q4.1), (0, .ref 92), (1, .long v1), (3, .int v3)]) d_X2_grow_35 (Nat.le_of_ble_eq_true rfl) rfl ?_
      refine r_iload (pc := 37) 1 d_X2_grow_37 rfl ?_
      refine r_iconst (pc := 39) (1 : Int32) d_X2_grow_39 rfl ?_
      refine r_isub (pc := 40) d_X2_grow_40 ?_
      refine r_leti (f := (oV Sh)) (fun x5 => ?_)
      refine r_istore (pc := 41) (ls' := [(7, .int x5), (5, .long v1), (4, .int q4.1), (0, .ref 92), (1, .long v1), (3, .int v3)]) d_X2_grow_41 (Nat.le_of_ble_eq_true rfl) rfl ?_
      refine r_pick [3, 5, 1, 0] (ls' := [(0, .ref 92), (3, .int v3), (5, .long v1), (7, .int x5)]) rfl ?_
      exact s_X2_grow_43 hst h0 hd f_X2_grow hf_X2_grow zFU  v1 x5 q4.2
    · exact r_vret (pc := 22) rfl d_X2_grow_22
def fn_X2_growR : Nat → Int64 → Int32 → zD → Option zD
  | 0, _, _, _ => none
  | n + 1, v1, v3, D => fn_X2_grow (fn_X2_growR n) v1 v3 D
theorem s_X2_growR {X : zX} {Sh : zSh} (hst : (zl X).stackTraces = false) (h0 : zSh0 Sh) : ∀ (n d : Nat) (hd : n * 1 + 2 ≤ d) (v1 : Int64) (v3 : Int32) (D : zD) , Sd X m_X2_grow d [.ref 92, .long v1, .int v3] (Sh, D) ((oV Sh) (fn_X2_growR n v1 v3 D))
  | 0, d, _, _, _, _ => fun o M' h => by cases h
  | n + 1, d, hd, v1, v3, D => by
    obtain ⟨d, rfl⟩ : ∃ e, d = e + 1 := ⟨d - 1, by omega⟩
    exact b_X2_grow hst h0 (by omega) (fn_X2_growR n) (fun v1 v3 D  => s_X2_growR hst h0 n d (by omega) v1 v3 D ) 
def fn_X2_growT (v1 : Int64) (v3 : Int32) (D : zD) : Option zD := fn_X2_growR 100 v1 v3 D
theorem s_X2_growT {X : zX} {Sh : zSh} {d : Nat} (hst : (zl X).stackTraces = false) (h0 : zSh0 Sh) (hd : 102 ≤ d) {v1 : Int64} {v3 : Int32}  {D : zD} : Sd X m_X2_grow d [.ref 92, .long v1, .int v3] (Sh, D) ((oV Sh) (fn_X2_growT v1 v3 D)) := s_X2_growR hst h0 100 d (by omega) v1 v3 D 
/-! CoveredSigns$Codes.largest -/
theorem d_X2_largest_0 : decode (yB m_X2_largest) 0 = .ok (.iload_n 2, 1) := by decide +kernel
theorem d_X2_largest_1 : decode (yB m_X2_largest) 1 = .ok (.bipush 6, 2) := by decide +kernel
theorem d_X2_largest_3 : decode (yB m_X2_largest) 3 = .ok (.if_icmp .le 5, 3) := by decide +kernel
theorem d_X2_largest_6 : decode (yB m_X2_largest) 6 = .ok (.iconst (-1), 1) := by decide +kernel
theorem d_X2_largest_7 : decode (yB m_X2_largest) 7 = .ok (.ireturn, 1) := by decide +kernel
theorem d_X2_largest_8 : decode (yB m_X2_largest) 8 = .ok (.aload_n 0, 1) := by decide +kernel
theorem d_X2_largest_9 : decode (yB m_X2_largest) 9 = .ok (.aload_n 1, 1) := by decide +kernel
theorem d_X2_largest_10 : decode (yB m_X2_largest) 10 = .ok (.iload_n 2, 1) := by decide +kernel
theorem d_X2_largest_11 : decode (yB m_X2_largest) 11 = .ok (.iconst 2, 1) := by decide +kernel
theorem d_X2_largest_12 : decode (yB m_X2_largest) 12 = .ok (.iload_n 3, 1) := by decide +kernel
theorem d_X2_largest_13 : decode (yB m_X2_largest) 13 = .ok (.imul, 1) := by decide +kernel
theorem d_X2_largest_14 : decode (yB m_X2_largest) 14 = .ok (.invokevirtual 49, 3) := by decide +kernel
theorem d_X2_largest_17 : decode (yB m_X2_largest) 17 = .ok (.iconst 1, 1) := by decide +kernel
theorem d_X2_largest_18 : decode (yB m_X2_largest) 18 = .ok (.iload_n 2, 1) := by decide +kernel
theorem d_X2_largest_19 : decode (yB m_X2_largest) 19 = .ok (.ishl, 1) := by decide +kernel
theorem d_X2_largest_20 : decode (yB m_X2_largest) 20 = .ok (.istore 4, 2) := by decide +kernel
theorem d_X2_largest_22 : decode (yB m_X2_largest) 22 = .ok (.aload_n 0, 1) := by decide +kernel
theorem d_X2_largest_23 : decode (yB m_X2_largest) 23 = .ok (.getfield 11, 3) := by decide +kernel
theorem d_X2_largest_26 : decode (yB m_X2_largest) 26 = .ok (.iconst 0, 1) := by decide +kernel
theorem d_X2_largest_27 : decode (yB m_X2_largest) 27 = .ok (.laload, 1) := by decide +kernel
theorem d_X2_largest_28 : decode (yB m_X2_largest) 28 = .ok (.lconst 0, 1) := by decide +kernel
theorem d_X2_largest_29 : decode (yB m_X2_largest) 29 = .ok (.lcmp, 1) := by decide +kernel
theorem d_X2_largest_30 : decode (yB m_X2_largest) 30 = .ok (.ifCond .ne 6, 3) := by decide +kernel
theorem d_X2_largest_33 : decode (yB m_X2_largest) 33 = .ok (.iload 4, 2) := by decide +kernel
theorem d_X2_largest_35 : decode (yB m_X2_largest) 35 = .ok (.ireturn, 1) := by decide +kernel
theorem d_X2_largest_36 : decode (yB m_X2_largest) 36 = .ok (.iconst 0, 1) := by decide +kernel
theorem d_X2_largest_37 : decode (yB m_X2_largest) 37 = .ok (.istore 5, 2) := by decide +kernel
theorem d_X2_largest_39 : decode (yB m_X2_largest) 39 = .ok (.iload 5, 2) := by decide +kernel
theorem d_X2_largest_41 : decode (yB m_X2_largest) 41 = .ok (.iload 4, 2) := by decide +kernel
theorem d_X2_largest_43 : decode (yB m_X2_largest) 43 = .ok (.if_icmp .ge 76, 3) := by decide +kernel
theorem d_X2_largest_46 : decode (yB m_X2_largest) 46 = .ok (.iload 5, 2) := by decide +kernel
theorem d_X2_largest_48 : decode (yB m_X2_largest) 48 = .ok (.bipush 64, 2) := by decide +kernel
theorem d_X2_largest_50 : decode (yB m_X2_largest) 50 = .ok (.if_icmp .ge 69, 3) := by decide +kernel
theorem d_X2_largest_53 : decode (yB m_X2_largest) 53 = .ok (.aload_n 0, 1) := by decide +kernel
theorem d_X2_largest_54 : decode (yB m_X2_largest) 54 = .ok (.getfield 18, 3) := by decide +kernel
theorem d_X2_largest_57 : decode (yB m_X2_largest) 57 = .ok (.iload 5, 2) := by decide +kernel
theorem d_X2_largest_59 : decode (yB m_X2_largest) 59 = .ok (.lconst 0, 1) := by decide +kernel
theorem d_X2_largest_60 : decode (yB m_X2_largest) 60 = .ok (.lastore, 1) := by decide +kernel
theorem d_X2_largest_61 : decode (yB m_X2_largest) 61 = .ok (.iconst 0, 1) := by decide +kernel
theorem d_X2_largest_62 : decode (yB m_X2_largest) 62 = .ok (.istore 6, 2) := by decide +kernel
theorem d_X2_largest_64 : decode (yB m_X2_largest) 64 = .ok (.iload 6, 2) := by decide +kernel
theorem d_X2_largest_66 : decode (yB m_X2_largest) 66 = .ok (.iload 4, 2) := by decide +kernel
theorem d_X2_largest_68 : decode (yB m_X2_largest) 68 = .ok (.if_icmp .ge 45, 3) := by decide +kernel
theorem d_X2_largest_71 : decode (yB m_X2_largest) 71 = .ok (.iload 6, 2) := by decide +kernel
theorem d_X2_largest_73 : decode (yB m_X2_largest) 73 = .ok (.iload 5, 2) := by decide +kernel
theorem d_X2_largest_75 : decode (yB m_X2_largest) 75 = .ok (.if_icmp .eq 32, 3) := by decide +kernel
theorem d_X2_largest_78 : decode (yB m_X2_largest) 78 = .ok (.aload_n 0, 1) := by decide +kernel
theorem d_X2_largest_79 : decode (yB m_X2_largest) 79 = .ok (.getfield 11, 3) := by decide +kernel
theorem d_X2_largest_82 : decode (yB m_X2_largest) 82 = .ok (.iload 5, 2) := by decide +kernel
theorem d_X2_largest_84 : decode (yB m_X2_largest) 84 = .ok (.iload 6, 2) := by decide +kernel
theorem d_X2_largest_86 : decode (yB m_X2_largest) 86 = .ok (.ixor, 1) := by decide +kernel
theorem d_X2_largest_87 : decode (yB m_X2_largest) 87 = .ok (.invokestatic 45, 3) := by decide +kernel
theorem d_X2_largest_90 : decode (yB m_X2_largest) 90 = .ok (.ifCond .ne 17, 3) := by decide +kernel
theorem d_X2_largest_93 : decode (yB m_X2_largest) 93 = .ok (.aload_n 0, 1) := by decide +kernel
theorem d_X2_largest_94 : decode (yB m_X2_largest) 94 = .ok (.getfield 18, 3) := by decide +kernel
theorem d_X2_largest_97 : decode (yB m_X2_largest) 97 = .ok (.iload 5, 2) := by decide +kernel
theorem d_X2_largest_99 : decode (yB m_X2_largest) 99 = .ok (.dup2, 1) := by decide +kernel
theorem d_X2_largest_100 : decode (yB m_X2_largest) 100 = .ok (.laload, 1) := by decide +kernel
theorem d_X2_largest_101 : decode (yB m_X2_largest) 101 = .ok (.lconst 1, 1) := by decide +kernel
theorem d_X2_largest_102 : decode (yB m_X2_largest) 102 = .ok (.iload 6, 2) := by decide +kernel
theorem d_X2_largest_104 : decode (yB m_X2_largest) 104 = .ok (.lshl, 1) := by decide +kernel
theorem d_X2_largest_105 : decode (yB m_X2_largest) 105 = .ok (.lor, 1) := by decide +kernel
theorem d_X2_largest_106 : decode (yB m_X2_largest) 106 = .ok (.lastore, 1) := by decide +kernel
theorem d_X2_largest_107 : decode (yB m_X2_largest) 107 = .ok (.iinc 6 1, 3) := by decide +kernel
theorem d_X2_largest_110 : decode (yB m_X2_largest) 110 = .ok (.goto (-46), 3) := by decide +kernel
theorem d_X2_largest_113 : decode (yB m_X2_largest) 113 = .ok (.iinc 5 1, 3) := by decide +kernel
theorem d_X2_largest_116 : decode (yB m_X2_largest) 116 = .ok (.goto (-77), 3) := by decide +kernel
theorem d_X2_largest_119 : decode (yB m_X2_largest) 119 = .ok (.aload_n 0, 1) := by decide +kernel
theorem d_X2_largest_120 : decode (yB m_X2_largest) 120 = .ok (.iconst 1, 1) := by decide +kernel
theorem d_X2_largest_121 : decode (yB m_X2_largest) 121 = .ok (.putfield 57, 3) := by decide +kernel
theorem d_X2_largest_124 : decode (yB m_X2_largest) 124 = .ok (.aload_n 0, 1) := by decide +kernel
theorem d_X2_largest_125 : decode (yB m_X2_largest) 125 = .ok (.iload 4, 2) := by decide +kernel
theorem d_X2_largest_127 : decode (yB m_X2_largest) 127 = .ok (.aload_n 0, 1) := by decide +kernel
theorem d_X2_largest_128 : decode (yB m_X2_largest) 128 = .ok (.aload_n 1, 1) := by decide +kernel
theorem d_X2_largest_129 : decode (yB m_X2_largest) 129 = .ok (.invokevirtual 61, 3) := by decide +kernel
theorem d_X2_largest_132 : decode (yB m_X2_largest) 132 = .ok (.iload_n 2, 1) := by decide +kernel
theorem d_X2_largest_133 : decode (yB m_X2_largest) 133 = .ok (.iload_n 3, 1) := by decide +kernel
theorem d_X2_largest_134 : decode (yB m_X2_largest) 134 = .ok (.invokevirtual 65, 3) := by decide +kernel
theorem d_X2_largest_137 : decode (yB m_X2_largest) 137 = .ok (.idiv, 1) := by decide +kernel
theorem d_X2_largest_138 : decode (yB m_X2_largest) 138 = .ok (.putfield 69, 3) := by decide +kernel
theorem d_X2_largest_141 : decode (yB m_X2_largest) 141 = .ok (.aload_n 0, 1) := by decide +kernel
theorem d_X2_largest_142 : decode (yB m_X2_largest) 142 = .ok (.aload_n 0, 1) := by decide +kernel
theorem d_X2_largest_143 : decode (yB m_X2_largest) 143 = .ok (.getfield 18, 3) := by decide +kernel
theorem d_X2_largest_146 : decode (yB m_X2_largest) 146 = .ok (.iconst 0, 1) := by decide +kernel
theorem d_X2_largest_147 : decode (yB m_X2_largest) 147 = .ok (.laload, 1) := by decide +kernel
theorem d_X2_largest_148 : decode (yB m_X2_largest) 148 = .ok (.iconst 1, 1) := by decide +kernel
theorem d_X2_largest_149 : decode (yB m_X2_largest) 149 = .ok (.invokevirtual 72, 3) := by decide +kernel
theorem d_X2_largest_152 : decode (yB m_X2_largest) 152 = .ok (.aload_n 0, 1) := by decide +kernel
theorem d_X2_largest_153 : decode (yB m_X2_largest) 153 = .ok (.getfield 57, 3) := by decide +kernel
theorem d_X2_largest_156 : decode (yB m_X2_largest) 156 = .ok (.ireturn, 1) := by decide +kernel
def fn_X2_largest_119 (a1 : Nat) (v2 : Int32) (v3 : Int32) (v4 : Int32) (D : zD) : Option (Int32 × zD) := zlet (sI D 92 4 (1 : Int32)) fun D6 => (fn_X3_largest a1 D6).bind fun x7 => (fn_X2_ball x7 v2 v3).bind fun x8 => zdv x8 <| zlet (sI D6 92 5 (v4 / x8)) fun D9 => (fn_X2_growT (gL D9 95 0) (1 : Int32) D9).bind fun D10 => (some ((gI D10 92 4), D10))
def fn_X2_largest_64 (a1 : Nat) (v2 : Int32) (v3 : Int32) (k39 : Int32 → Int32 → zD → Option (Int32 × zD)) : Nat → Int32 → Int32 → Int32 → zD → Option (Int32 × zD)
  | 0, _, _, _, _ => none
  | n + 1, v4, v5, v6, D => (if v4 ≤ v6 then ((k39 v4 (v5 + (1 : Int32)) D)) else ((if v6 = v5 then (((fn_X2_largest_64 a1 v2 v3 k39 n) v4 v5 (v6 + (1 : Int32)) D)) else ((fn_X2_has 93 64 (v5 ^^^ v6) D).bind fun x16 => (if x16 = 0 then (zck v5 64 <| zck v5 64 <| zlet (sL D 95 v5.toNatClampNeg ((gL D 95 v5.toNatClampNeg) ||| (zlshl (1 : Int64) v6))) fun D20 => ((fn_X2_largest_64 a1 v2 v3 k39 n) v4 v5 (v6 + (1 : Int32)) D20)) else (((fn_X2_largest_64 a1 v2 v3 k39 n) v4 v5 (v6 + (1 : Int32)) D)))))))
def fn_X2_largest_39 (a1 : Nat) (v2 : Int32) (v3 : Int32) : Nat → Int32 → Int32 → zD → Option (Int32 × zD)
  | 0, _, _, _ => none
  | n + 1, v4, v5, D => (if v4 ≤ v5 then ((fn_X2_largest_119 a1 v2 v3 v4 D)) else ((if (64 : Int32) ≤ v5 then ((fn_X2_largest_119 a1 v2 v3 v4 D)) else (zck v5 64 <| zlet (sL D 95 v5.toNatClampNeg (0 : Int64)) fun D13 => (fn_X2_largest_64 a1 v2 v3 (fn_X2_largest_39 a1 v2 v3 n) zFU v4 v5 (0 : Int32) D13)))))
def fn_X2_largest (a1 : Nat) (v2 : Int32) (v3 : Int32) (D : zD) : Option (Int32 × zD) := (if v2 ≤ (6 : Int32) then ((fn_X2_gather a1 v2 ((2 : Int32) * v3) D).bind fun D2 => zlet ((1 : Int32) <<< (v2 &&& 31)) fun x3 => (if (lg_cmp (gL D2 93 0) (0 : Int64)) = 0 then ((some (x3, D2))) else ((fn_X2_largest_39 a1 v2 v3 zFU x3 (0 : Int32) D2)))) else ((some ((-1 : Int32), D))))
theorem s_X2_largest_119 {X : zX} {Sh : zSh} {d : Nat} (hst : (zl X).stackTraces = false) (h0 : zSh0 Sh) (hd : 102 ≤ d) {a1 : Nat} {v2 : Int32} {v3 : Int32} (h_a1 : a1 ∈ zI_3) (v4 : Int32) (D : zD)  : Rn X m_X2_largest (d + 1) 119 [(0, .ref 92), (1, .ref a1), (2, .int v2), (3, .int v3), (4, .int v4)] [] (Sh, D) ((oI Sh) (fn_X2_largest_119 a1 v2 v3 v4 D)) := by
  rw [fn_X2_largest_119]
  refine r_aload_n (pc := 119) 0 d_X2_largest_119 rfl rfl ?_
  refine r_iconst (pc := 120) (1 : Int32) d_X2_largest_120 rfl ?_
  refine r_putI (pc := 121) p_X2_57 (K_92 h0) rfl (Or.inl rfl) d_X2_largest_121 ?_
  refine r_letD (f := (oI Sh)) (fun D6 => ?_)
  refine r_aload_n (pc := 124) 0 d_X2_largest_124 rfl rfl ?_
  refine r_iload (pc := 125) 4 d_X2_largest_125 rfl ?_
  refine r_aload_n (pc := 127) 0 d_X2_largest_127 rfl rfl ?_
  refine r_aload_n (pc := 128) 1 d_X2_largest_128 rfl rfl ?_
  refine q_cP (f := (oI Sh)) (av := [.ref a1]) (st := [.ref 92, .int v4, .ref 92]) (z_runV ck_X3_largest rfl ml_X2_61 ci_X3_largest cv_X3_largest (LK_3 h0 h_a1) (ci := 3) rfl rfl (Nat.le_of_ble_eq_true rfl) d_X2_largest_129) (s_X3_largest hst h0 (by omega) h_a1) kp_I (fun x7 _ => ?_)
  refine r_iload_n (pc := 132) 2 d_X2_largest_132 rfl rfl ?_
  refine r_iload_n (pc := 133) 3 d_X2_largest_133 rfl rfl ?_
  refine q_cP (f := (oI Sh)) (av := [.ref 92, .int x7, .int v2, .int v3]) (st := [.int v4, .ref 92]) (z_runV ck_X2_ball rfl ml_X2_65 ci_X2_ball cv_X2_ball (K_92 h0) (ci := 2) rfl rfl (Nat.le_of_ble_eq_true rfl) d_X2_largest_134) (s_X2_ball hst h0 (by omega)) kp_I (fun x8 _ => ?_)
  refine r_idiv (f := (oI Sh)) (pc := 137) d_X2_largest_137 rfl ?_
  refine r_putI (pc := 138) p_X2_69 (K_92 h0) rfl (Or.inl rfl) d_X2_largest_138 ?_
  refine r_letD (f := (oI Sh)) (fun D9 => ?_)
  refine r_aload_n (pc := 141) 0 d_X2_largest_141 rfl rfl ?_
  refine r_aload_n (pc := 142) 0 d_X2_largest_142 rfl rfl ?_
  refine r_getR (pc := 143) g_X2_18 (K_92 h0) rfl (R_92_2 h0) d_X2_largest_143 ?_
  refine r_iconst (pc := 146) (0 : Int32) d_X2_largest_146 rfl ?_
  refine q_lald (pc := 147) (j := 0) (K_95 h0) (by unfold vp_in; decide) rfl d_X2_largest_147 ?_
  refine r_iconst (pc := 148) (1 : Int32) d_X2_largest_148 rfl ?_
  refine q_cV (f := (oI Sh)) (av := [.ref 92, .long (gL D9 95 0), .int (1 : Int32)]) (st := []) (z_runV ck_X2_grow rfl ml_X2_72 ci_X2_grow cv_X2_grow (K_92 h0) (ci := 2) rfl rfl (Nat.le_of_ble_eq_true rfl) d_X2_largest_149) (s_X2_growT hst h0 (by omega)) kp_I (fun D10 _ => ?_)
  refine r_aload_n (pc := 152) 0 d_X2_largest_152 rfl rfl ?_
  refine q_gI (pc := 153) g_X2_57 (K_92 h0) rfl d_X2_largest_153 ?_
  exact r_iret (pc := 156) rfl d_X2_largest_156
theorem s_X2_largest_64 {X : zX} {Sh : zSh} {d : Nat} (hst : (zl X).stackTraces = false) (h0 : zSh0 Sh) (hd : 102 ≤ d) {a1 : Nat} {v2 : Int32} {v3 : Int32} (h_a1 : a1 ∈ zI_3) (k39 : Int32 → Int32 → zD → Option (Int32 × zD)) (hk39 : ∀ (v4 : Int32) (v5 : Int32) (D : zD) , Rn X m_X2_largest (d + 1) 39 [(0, .ref 92), (1, .ref a1), (2, .int v2), (3, .int v3), (4, .int v4), (5, .int v5)] [] (Sh, D) ((oI Sh) (k39 v4 v5 D))) : ∀ (n : Nat) (v4 : Int32) (v5 : Int32) (v6 : Int32) (D : zD) , Rn X m_X2_largest (d + 1) 64 [(0, .ref 92), (1, .ref a1), (2, .int v2), (3, .int v3), (4, .int v4), (5, .int v5), (6, .int v6)] [] (Sh, D) ((oI Sh) (fn_X2_largest_64 a1 v2 v3 k39 n v4 v5 v6 D)) := by
  intro n
  induction n with
  | zero => intro v4 v5 v6 D; exact Rn_none rfl
  | succ n hk64 =>
    intro v4 v5 v6 D
    rw [fn_X2_largest_64]
    refine r_iload (pc := 64) 6 d_X2_largest_64 rfl ?_
    refine r_iload (pc := 66) 4 d_X2_largest_66 rfl ?_
    refine r_icmp_ge (f := (oI Sh)) (pc := 68) 113 d_X2_largest_68 (by decide) (fun c14 => ?_) (fun c14 => ?_)
    · refine r_iinc (pc := 113) ((v5 + (1 : Int32))) 5 (ls' := [(5, .int (v5 + (1 : Int32))), (0, .ref 92), (1, .ref a1), (2, .int v2), (3, .int v3), (4, .int v4), (6, .int v6)]) d_X2_largest_113 rfl rfl (Nat.le_of_ble_eq_true rfl) rfl ?_
      refine r_goto (pc := 116) 39 d_X2_largest_116 (by decide) ?_
      refine r_pick [1, 2, 3, 4, 5, 0] (ls' := [(0, .ref 92), (1, .ref a1), (2, .int v2), (3, .int v3), (4, .int v4), (5, .int (v5 + (1 : Int32)))]) rfl ?_
      exact hk39 v4 (v5 + (1 : Int32)) D 
    · refine r_iload (pc := 71) 6 d_X2_largest_71 rfl ?_
      refine r_iload (pc := 73) 5 d_X2_largest_73 rfl ?_
      refine r_icmp_eq (f := (oI Sh)) (pc := 75) 107 d_X2_largest_75 (by decide) (fun c15 => ?_) (fun c15 => ?_)
      · refine r_iinc (pc := 107) ((v6 + (1 : Int32))) 6 (ls' := [(6, .int (v6 + (1 : Int32))), (0, .ref 92), (1, .ref a1), (2, .int v2), (3, .int v3), (4, .int v4), (5, .int v5)]) d_X2_largest_107 rfl rfl (Nat.le_of_ble_eq_true rfl) rfl ?_
        refine r_goto (pc := 110) 64 d_X2_largest_110 (by decide) ?_
        refine r_pick [1, 2, 3, 4, 5, 6, 0] (ls' := [(0, .ref 92), (1, .ref a1), (2, .int v2), (3, .int v3), (4, .int v4), (5, .int v5), (6, .int (v6 + (1 : Int32)))]) rfl ?_
        exact hk64 v4 v5 (v6 + (1 : Int32)) D 
      · refine r_aload_n (pc := 78) 0 d_X2_largest_78 rfl rfl ?_
        refine r_getR (pc := 79) g_X2_11 (K_92 h0) rfl (R_92_0 h0) d_X2_largest_79 ?_
        refine r_iload (pc := 82) 5 d_X2_largest_82 rfl ?_
        refine r_iload (pc := 84) 6 d_X2_largest_84 rfl ?_
        refine r_ixor (pc := 86) d_X2_largest_86 ?_
        refine q_cP (f := (oI Sh)) (av := [.ref 93, .int (v5 ^^^ v6)]) (st := []) (z_runS ck_X2_has rfl ml_X2_45 cs_X2_has rfl (Nat.le_of_ble_eq_true rfl) d_X2_largest_87) (s_X2_has hst h0 (by omega) (K_93 h0) (by decide)) kp_I (fun x16 _ => ?_)
        refine r_if_ne (f := (oI Sh)) (pc := 90) 107 d_X2_largest_90 (by decide) (fun c17 => ?_) (fun c17 => ?_)
        · refine r_iinc (pc := 107) ((v6 + (1 : Int32))) 6 (ls' := [(6, .int (v6 + (1 : Int32))), (0, .ref 92), (1, .ref a1), (2, .int v2), (3, .int v3), (4, .int v4), (5, .int v5)]) d_X2_largest_107 rfl rfl (Nat.le_of_ble_eq_true rfl) rfl ?_
          refine r_goto (pc := 110) 64 d_X2_largest_110 (by decide) ?_
          refine r_pick [1, 2, 3, 4, 5, 6, 0] (ls' := [(0, .ref 92), (1, .ref a1), (2, .int v2), (3, .int v3), (4, .int v4), (5, .int v5), (6, .int (v6 + (1 : Int32)))]) rfl ?_
          exact hk64 v4 v5 (v6 + (1 : Int32)) D 
        · refine r_aload_n (pc := 93) 0 d_X2_largest_93 rfl rfl ?_
          refine r_getR (pc := 94) g_X2_18 (K_92 h0) rfl (R_92_2 h0) d_X2_largest_94 ?_
          refine r_iload (pc := 97) 5 d_X2_largest_97 rfl ?_
          refine r_dup2 (pc := 99) d_X2_largest_99 rfl rfl ?_
          refine r_ck (f := (oI Sh)) rfl (fun hc18 => ?_)
          refine q_lald (pc := 100) (j := v5.toNatClampNeg) (K_95 h0) hc18 rfl d_X2_largest_100 ?_
          refine r_lconst (pc := 101) (1 : Int64) d_X2_largest_101 rfl ?_
          refine r_iload (pc := 102) 6 d_X2_largest_102 rfl ?_
          refine r_lshl (pc := 104) d_X2_largest_104 ?_
          refine r_lor (pc := 105) d_X2_largest_105 ?_
          refine r_ck (f := (oI Sh)) rfl (fun hc19 => ?_)
          refine q_last (pc := 106) (j := v5.toNatClampNeg) (K_95 h0) hc19 rfl  d_X2_largest_106 ?_
          refine r_letD (f := (oI Sh)) (fun D20 => ?_)
          refine r_iinc (pc := 107) ((v6 + (1 : Int32))) 6 (ls' := [(6, .int (v6 + (1 : Int32))), (0, .ref 92), (1, .ref a1), (2, .int v2), (3, .int v3), (4, .int v4), (5, .int v5)]) d_X2_largest_107 rfl rfl (Nat.le_of_ble_eq_true rfl) rfl ?_
          refine r_goto (pc := 110) 64 d_X2_largest_110 (by decide) ?_
          refine r_pick [1, 2, 3, 4, 5, 6, 0] (ls' := [(0, .ref 92), (1, .ref a1), (2, .int v2), (3, .int v3), (4, .int v4), (5, .int v5), (6, .int (v6 + (1 : Int32)))]) rfl ?_
          exact hk64 v4 v5 (v6 + (1 : Int32)) D20 
theorem s_X2_largest_39 {X : zX} {Sh : zSh} {d : Nat} (hst : (zl X).stackTraces = false) (h0 : zSh0 Sh) (hd : 102 ≤ d) {a1 : Nat} {v2 : Int32} {v3 : Int32} (h_a1 : a1 ∈ zI_3) : ∀ (n : Nat) (v4 : Int32) (v5 : Int32) (D : zD) , Rn X m_X2_largest (d + 1) 39 [(0, .ref 92), (1, .ref a1), (2, .int v2), (3, .int v3), (4, .int v4), (5, .int v5)] [] (Sh, D) ((oI Sh) (fn_X2_largest_39 a1 v2 v3 n v4 v5 D)) := by
  intro n
  induction n with
  | zero => intro v4 v5 D; exact Rn_none rfl
  | succ n hk39 =>
    intro v4 v5 D
    rw [fn_X2_largest_39]
    refine r_iload (pc := 39) 5 d_X2_largest_39 rfl ?_
    refine r_iload (pc := 41) 4 d_X2_largest_41 rfl ?_
    refine r_icmp_ge (f := (oI Sh)) (pc := 43) 119 d_X2_largest_43 (by decide) (fun c5 => ?_) (fun c5 => ?_)
    · refine r_pick [0, 1, 2, 3, 4] (ls' := [(0, .ref 92), (1, .ref a1), (2, .int v2), (3, .int v3), (4, .int v4)]) rfl ?_
      exact s_X2_largest_119 hst h0 hd h_a1 v4 D
    · refine r_iload (pc := 46) 5 d_X2_largest_46 rfl ?_
      refine r_bipush (pc := 48) (64 : Int32) d_X2_largest_48 rfl ?_
      refine r_icmp_ge (f := (oI Sh)) (pc := 50) 119 d_X2_largest_50 (by decide) (fun c11 => ?_) (fun c11 => ?_)
      · refine r_pick [0, 1, 2, 3, 4] (ls' := [(0, .ref 92), (1, .ref a1), (2, .int v2), (3, .int v3), (4, .int v4)]) rfl ?_
        exact s_X2_largest_119 hst h0 hd h_a1 v4 D
      · refine r_aload_n (pc := 53) 0 d_X2_largest_53 rfl rfl ?_
        refine r_getR (pc := 54) g_X2_18 (K_92 h0) rfl (R_92_2 h0) d_X2_largest_54 ?_
        refine r_iload (pc := 57) 5 d_X2_largest_57 rfl ?_
        refine r_lconst (pc := 59) (0 : Int64) d_X2_largest_59 rfl ?_
        refine r_ck (f := (oI Sh)) rfl (fun hc12 => ?_)
        refine q_last (pc := 60) (j := v5.toNatClampNeg) (K_95 h0) hc12 rfl  d_X2_largest_60 ?_
        refine r_letD (f := (oI Sh)) (fun D13 => ?_)
        refine r_iconst (pc := 61) (0 : Int32) d_X2_largest_61 rfl ?_
        refine r_istore (pc := 62) (ls' := [(6, .int (0 : Int32)), (0, .ref 92), (1, .ref a1), (2, .int v2), (3, .int v3), (4, .int v4), (5, .int v5)]) d_X2_largest_62 (Nat.le_of_ble_eq_true rfl) rfl ?_
        refine r_pick [1, 2, 3, 4, 5, 6, 0] (ls' := [(0, .ref 92), (1, .ref a1), (2, .int v2), (3, .int v3), (4, .int v4), (5, .int v5), (6, .int (0 : Int32))]) rfl ?_
        exact s_X2_largest_64 hst h0 hd h_a1 (fn_X2_largest_39 a1 v2 v3 n) hk39 zFU  v4 v5 (0 : Int32) D13
theorem s_X2_largest {X : zX} {Sh : zSh} {d : Nat} (hst : (zl X).stackTraces = false) (h0 : zSh0 Sh) (hd : 103 ≤ d) {a1 : Nat} {v2 : Int32} {v3 : Int32} (h_a1 : a1 ∈ zI_3) {D : zD} : Sd X m_X2_largest d [.ref 92, .ref a1, .int v2, .int v3] (Sh, D) ((oI Sh) (fn_X2_largest a1 v2 v3 D)) := by
  obtain ⟨d, rfl⟩ : ∃ e, d = e + 1 := ⟨d - 1, by omega⟩
  replace hd : 102 ≤ d := by omega
  refine z_body ck_X2_largest rfl (Nat.le_of_ble_eq_true rfl) rfl hst ?_
  rw [fn_X2_largest]
  show Rn X m_X2_largest (d + 1) 0 [(0, .ref 92), (1, .ref a1), (2, .int v2), (3, .int v3)] [] (Sh, D) _
  refine r_iload_n (pc := 0) 2 d_X2_largest_0 rfl rfl ?_
  refine r_bipush (pc := 1) (6 : Int32) d_X2_largest_1 rfl ?_
  refine r_icmp_le (f := (oI Sh)) (pc := 3) 8 d_X2_largest_3 (by decide) (fun c1 => ?_) (fun c1 => ?_)
  · refine r_aload_n (pc := 8) 0 d_X2_largest_8 rfl rfl ?_
    refine r_aload_n (pc := 9) 1 d_X2_largest_9 rfl rfl ?_
    refine r_iload_n (pc := 10) 2 d_X2_largest_10 rfl rfl ?_
    refine r_iconst (pc := 11) (2 : Int32) d_X2_largest_11 rfl ?_
    refine r_iload_n (pc := 12) 3 d_X2_largest_12 rfl rfl ?_
    refine r_imul (pc := 13) d_X2_largest_13 ?_
    refine q_cV (f := (oI Sh)) (av := [.ref 92, .ref a1, .int v2, .int ((2 : Int32) * v3)]) (st := []) (z_runV ck_X2_gather rfl ml_X2_49 ci_X2_gather cv_X2_gather (K_92 h0) (ci := 2) rfl rfl (Nat.le_of_ble_eq_true rfl) d_X2_largest_14) (s_X2_gather hst h0 (by omega) h_a1) kp_I (fun D2 _ => ?_)
    refine r_iconst (pc := 17) (1 : Int32) d_X2_largest_17 rfl ?_
    refine r_iload_n (pc := 18) 2 d_X2_largest_18 rfl rfl ?_
    refine r_ishl (pc := 19) d_X2_largest_19 ?_
    refine r_leti (f := (oI Sh)) (fun x3 => ?_)
    refine r_istore (pc := 20) (ls' := [(4, .int x3), (0, .ref 92), (1, .ref a1), (2, .int v2), (3, .int v3)]) d_X2_largest_20 (Nat.le_of_ble_eq_true rfl) rfl ?_
    refine r_aload_n (pc := 22) 1 d_X2_largest_22 rfl rfl ?_
    refine r_getR (pc := 23) g_X2_11 (K_92 h0) rfl (R_92_0 h0) d_X2_largest_23 ?_
    refine r_iconst (pc := 26) (0 : Int32) d_X2_largest_26 rfl ?_
    refine q_lald (pc := 27) (j := 0) (K_93 h0) (by unfold vp_in; decide) rfl d_X2_largest_27 ?_
    refine r_lconst (pc := 28) (0 : Int64) d_X2_largest_28 rfl ?_
    refine r_lcmp (pc := 29) d_X2_largest_29 ?_
    refine r_if_ne (f := (oI Sh)) (pc := 30) 36 d_X2_largest_30 (by decide) (fun c4 => ?_) (fun c4 => ?_)
    · refine r_iconst (pc := 36) (0 : Int32) d_X2_largest_36 rfl ?_
      refine r_istore (pc := 37) (ls' := [(5, .int (0 : Int32)), (4, .int x3), (0, .ref 92), (1, .ref a1), (2, .int v2), (3, .int v3)]) d_X2_largest_37 (Nat.le_of_ble_eq_true rfl) rfl ?_
      refine r_pick [2, 3, 4, 5, 1, 0] (ls' := [(0, .ref 92), (1, .ref a1), (2, .int v2), (3, .int v3), (4, .int x3), (5, .int (0 : Int32))]) rfl ?_
      exact s_X2_largest_39 hst h0 hd h_a1 zFU  x3 (0 : Int32) D2
    · refine r_iload (pc := 33) 0 d_X2_largest_33 rfl ?_
      exact r_iret (pc := 35) rfl d_X2_largest_35
  · refine r_iconst (pc := 6) (-1 : Int32) d_X2_largest_6 rfl ?_
    exact r_iret (pc := 7) rfl d_X2_largest_7

