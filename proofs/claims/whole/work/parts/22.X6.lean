/-! CoveredSigns$Repair.byOne -/
theorem d_X6_byOne_0 : decode (yB m_X6_byOne) 0 = .ok (.iconst 0, 1) := by decide +kernel
theorem d_X6_byOne_1 : decode (yB m_X6_byOne) 1 = .ok (.istore_n 2, 1) := by decide +kernel
theorem d_X6_byOne_2 : decode (yB m_X6_byOne) 2 = .ok (.iload_n 2, 1) := by decide +kernel
theorem d_X6_byOne_3 : decode (yB m_X6_byOne) 3 = .ok (.aload_n 1, 1) := by decide +kernel
theorem d_X6_byOne_4 : decode (yB m_X6_byOne) 4 = .ok (.getfield 38, 3) := by decide +kernel
theorem d_X6_byOne_7 : decode (yB m_X6_byOne) 7 = .ok (.if_icmp .ge 39, 3) := by decide +kernel
theorem d_X6_byOne_10 : decode (yB m_X6_byOne) 10 = .ok (.aload_n 1, 1) := by decide +kernel
theorem d_X6_byOne_11 : decode (yB m_X6_byOne) 11 = .ok (.iload_n 2, 1) := by decide +kernel
theorem d_X6_byOne_12 : decode (yB m_X6_byOne) 12 = .ok (.invokevirtual 41, 3) := by decide +kernel
theorem d_X6_byOne_15 : decode (yB m_X6_byOne) 15 = .ok (.istore_n 3, 1) := by decide +kernel
theorem d_X6_byOne_16 : decode (yB m_X6_byOne) 16 = .ok (.iload_n 3, 1) := by decide +kernel
theorem d_X6_byOne_17 : decode (yB m_X6_byOne) 17 = .ok (.ifCond .eq 23, 3) := by decide +kernel
theorem d_X6_byOne_20 : decode (yB m_X6_byOne) 20 = .ok (.aload_n 0, 1) := by decide +kernel
theorem d_X6_byOne_21 : decode (yB m_X6_byOne) 21 = .ok (.iconst 1, 1) := by decide +kernel
theorem d_X6_byOne_22 : decode (yB m_X6_byOne) 22 = .ok (.putfield 15, 3) := by decide +kernel
theorem d_X6_byOne_25 : decode (yB m_X6_byOne) 25 = .ok (.aload_n 0, 1) := by decide +kernel
theorem d_X6_byOne_26 : decode (yB m_X6_byOne) 26 = .ok (.bipush 100, 2) := by decide +kernel
theorem d_X6_byOne_28 : decode (yB m_X6_byOne) 28 = .ok (.iload_n 2, 1) := by decide +kernel
theorem d_X6_byOne_29 : decode (yB m_X6_byOne) 29 = .ok (.imul, 1) := by decide +kernel
theorem d_X6_byOne_30 : decode (yB m_X6_byOne) 30 = .ok (.iload_n 3, 1) := by decide +kernel
theorem d_X6_byOne_31 : decode (yB m_X6_byOne) 31 = .ok (.invokestatic 45, 3) := by decide +kernel
theorem d_X6_byOne_34 : decode (yB m_X6_byOne) 34 = .ok (.iadd, 1) := by decide +kernel
theorem d_X6_byOne_35 : decode (yB m_X6_byOne) 35 = .ok (.putfield 19, 3) := by decide +kernel
theorem d_X6_byOne_38 : decode (yB m_X6_byOne) 38 = .ok (.iconst 1, 1) := by decide +kernel
theorem d_X6_byOne_39 : decode (yB m_X6_byOne) 39 = .ok (.ireturn, 1) := by decide +kernel
theorem d_X6_byOne_40 : decode (yB m_X6_byOne) 40 = .ok (.iinc 2 1, 3) := by decide +kernel
theorem d_X6_byOne_43 : decode (yB m_X6_byOne) 43 = .ok (.goto (-41), 3) := by decide +kernel
theorem d_X6_byOne_46 : decode (yB m_X6_byOne) 46 = .ok (.iconst 0, 1) := by decide +kernel
theorem d_X6_byOne_47 : decode (yB m_X6_byOne) 47 = .ok (.ireturn, 1) := by decide +kernel
def fn_X6_byOne_20 (a1 : Nat) (v2 : Int32) (v3 : Int32) (D : zD) : Option (Int32 × zD) := zlet (sI D 85 1 (1 : Int32)) fun D4 => (fn_X11_lowestOf v3).bind fun x5 => zlet (sI D4 85 2 (((100 : Int32) * v2) + x5)) fun D6 => (some ((1 : Int32), D6))
def fn_X6_byOne_2 (a1 : Nat) : Nat → Int32 → zD → Option (Int32 × zD)
  | 0, _, _ => none
  | n + 1, v2, D => (if (gI D a1 4) ≤ v2 then ((some ((0 : Int32), D))) else ((fn_X10_curesOf a1 v2 D).bind fun x2 => (if x2 = 0 then (((fn_X6_byOne_2 a1 n) (v2 + (1 : Int32)) D)) else ((fn_X6_byOne_20 a1 v2 x2 D)))))
def fn_X6_byOne (a1 : Nat) (D : zD) : Option (Int32 × zD) := (fn_X6_byOne_2 a1 zFU (0 : Int32) D)
theorem s_X6_byOne_20 {X : zX} {Sh : zSh} {d : Nat} (hst : (zl X).stackTraces = false) (h0 : zSh0 Sh) (hd : 3 ≤ d) {a1 : Nat} (h_a1 : a1 ∈ zI_10) (v2 : Int32) (v3 : Int32) (D : zD)  : Rn X m_X6_byOne (d + 1) 20 [(0, .ref 85), (2, .int v2), (3, .int v3)] [] (Sh, D) ((oI Sh) (fn_X6_byOne_20 a1 v2 v3 D)) := by
  rw [fn_X6_byOne_20]
  refine r_aload_n (pc := 20) 0 d_X6_byOne_20 rfl rfl ?_
  refine r_iconst (pc := 21) (1 : Int32) d_X6_byOne_21 rfl ?_
  refine r_putI (pc := 22) p_X6_15 (K_85 h0) rfl (Or.inl rfl) d_X6_byOne_22 ?_
  refine r_letD (f := (oI Sh)) (fun D4 => ?_)
  refine r_aload_n (pc := 25) 0 d_X6_byOne_25 rfl rfl ?_
  refine r_bipush (pc := 26) (100 : Int32) d_X6_byOne_26 rfl ?_
  refine r_iload_n (pc := 28) 1 d_X6_byOne_28 rfl rfl ?_
  refine r_imul (pc := 29) d_X6_byOne_29 ?_
  refine r_iload_n (pc := 30) 2 d_X6_byOne_30 rfl rfl ?_
  refine q_cP (f := (oI Sh)) (av := [.int v3]) (st := [.int ((100 : Int32) * v2), .ref 85]) (z_runSN ck_X11_lowestOf rfl mn_X6_45 cs_X11_lowestOf rfl (Nat.le_of_ble_eq_true rfl) d_X6_byOne_31) (s_X11_lowestOf hst h0 (by omega)) kp_I (fun x5 _ => ?_)
  refine r_iadd (pc := 34) d_X6_byOne_34 ?_
  refine r_putI (pc := 35) p_X6_19 (K_85 h0) rfl (Or.inl rfl) d_X6_byOne_35 ?_
  refine r_letD (f := (oI Sh)) (fun D6 => ?_)
  refine r_iconst (pc := 38) (1 : Int32) d_X6_byOne_38 rfl ?_
  exact r_zret (pc := 39) rfl (by decide) d_X6_byOne_39
theorem s_X6_byOne_2 {X : zX} {Sh : zSh} {d : Nat} (hst : (zl X).stackTraces = false) (h0 : zSh0 Sh) (hd : 3 ≤ d) {a1 : Nat} (h_a1 : a1 ∈ zI_10) : ∀ (n : Nat) (v2 : Int32) (D : zD) , Rn X m_X6_byOne (d + 1) 2 [(0, .ref 85), (1, .ref a1), (2, .int v2)] [] (Sh, D) ((oI Sh) (fn_X6_byOne_2 a1 n v2 D)) := by
  intro n
  induction n with
  | zero => intro v2 D; exact Rn_none rfl
  | succ n hk2 =>
    intro v2 D
    rw [fn_X6_byOne_2]
    refine r_iload_n (pc := 2) 2 d_X6_byOne_2 rfl rfl ?_
    refine r_aload_n (pc := 3) 1 d_X6_byOne_3 rfl rfl ?_
    refine q_gIn (pc := 4) g_X6_38 (LK_10 h0 h_a1) rfl d_X6_byOne_4 ?_
    refine r_icmp_ge (f := (oI Sh)) (pc := 7) 46 d_X6_byOne_7 (by decide) (fun c1 => ?_) (fun c1 => ?_)
    · refine r_iconst (pc := 46) (0 : Int32) d_X6_byOne_46 rfl ?_
      exact r_zret (pc := 47) rfl (by decide) d_X6_byOne_47
    · refine r_aload_n (pc := 10) 1 d_X6_byOne_10 rfl rfl ?_
      refine r_iload_n (pc := 11) 2 d_X6_byOne_11 rfl rfl ?_
      refine q_cP (f := (oI Sh)) (av := [.ref a1, .int v2]) (st := []) (z_runV ck_X10_curesOf rfl ml_X6_41 ci_X10_curesOf cv_X10_curesOf (LK_10 h0 h_a1) (ci := 10) rfl rfl (Nat.le_of_ble_eq_true rfl) d_X6_byOne_12) (s_X10_curesOf hst h0 (by omega) h_a1) kp_I (fun x2 _ => ?_)
      refine r_istore_n (pc := 15) (ls' := [(3, .int x2), (0, .ref 85), (1, .ref a1), (2, .int v2)]) d_X6_byOne_15 rfl (Nat.le_of_ble_eq_true rfl) rfl ?_
      refine r_iload_n (pc := 16) 0 d_X6_byOne_16 rfl rfl ?_
      refine r_if_eq (f := (oI Sh)) (pc := 17) 40 d_X6_byOne_17 (by decide) (fun c3 => ?_) (fun c3 => ?_)
      · refine r_iinc (pc := 40) ((v2 + (1 : Int32))) 3 (ls' := [(2, .int (v2 + (1 : Int32))), (3, .int x2), (0, .ref 85), (1, .ref a1)]) d_X6_byOne_40 rfl rfl (Nat.le_of_ble_eq_true rfl) rfl ?_
        refine r_goto (pc := 43) 2 d_X6_byOne_43 (by decide) ?_
        refine r_pick [2, 3, 0] (ls' := [(0, .ref 85), (1, .ref a1), (2, .int (v2 + (1 : Int32)))]) rfl ?_
        exact hk2 (v2 + (1 : Int32)) D 
      · refine r_pick [1, 3, 0] (ls' := [(0, .ref 85), (2, .int v2), (3, .int x2)]) rfl ?_
        exact s_X6_byOne_20 hst h0 hd h_a1 v2 x2 D
theorem s_X6_byOne {X : zX} {Sh : zSh} {d : Nat} (hst : (zl X).stackTraces = false) (h0 : zSh0 Sh) (hd : 4 ≤ d) {a1 : Nat} (h_a1 : a1 ∈ zI_10) {D : zD} : Sd X m_X6_byOne d [.ref 85, .ref a1] (Sh, D) ((oI Sh) (fn_X6_byOne a1 D)) := by
  obtain ⟨d, rfl⟩ : ∃ e, d = e + 1 := ⟨d - 1, by omega⟩
  replace hd : 3 ≤ d := by omega
  refine z_body ck_X6_byOne rfl (Nat.le_of_ble_eq_true rfl) rfl hst ?_
  rw [fn_X6_byOne]
  show Rn X m_X6_byOne (d + 1) 0 [(0, .ref 85), (1, .ref a1)] [] (Sh, D) _
  refine r_iconst (pc := 0) (0 : Int32) d_X6_byOne_0 rfl ?_
  refine r_istore_n (pc := 1) (ls' := [(2, .int (0 : Int32)), (0, .ref 85), (1, .ref a1)]) d_X6_byOne_1 rfl (Nat.le_of_ble_eq_true rfl) rfl ?_
  refine r_pick [1, 2, 0] (ls' := [(0, .ref 85), (1, .ref a1), (2, .int (0 : Int32))]) rfl ?_
  exact s_X6_byOne_2 hst h0 hd h_a1 zFU  (0 : Int32) D
/-! CoveredSigns$Repair.endsBehind -/
theorem d_X6_endsBehind_0 : decode (yB m_X6_endsBehind) 0 = .ok (.iload_n 1, 1) := by decide +kernel
theorem d_X6_endsBehind_1 : decode (yB m_X6_endsBehind) 1 = .ok (.istore_n 3, 1) := by decide +kernel
theorem d_X6_endsBehind_2 : decode (yB m_X6_endsBehind) 2 = .ok (.iload_n 3, 1) := by decide +kernel
theorem d_X6_endsBehind_3 : decode (yB m_X6_endsBehind) 3 = .ok (.aload_n 0, 1) := by decide +kernel
theorem d_X6_endsBehind_4 : decode (yB m_X6_endsBehind) 4 = .ok (.getfield 9, 3) := by decide +kernel
theorem d_X6_endsBehind_7 : decode (yB m_X6_endsBehind) 7 = .ok (.getfield 38, 3) := by decide +kernel
theorem d_X6_endsBehind_10 : decode (yB m_X6_endsBehind) 10 = .ok (.if_icmp .ge 54, 3) := by decide +kernel
theorem d_X6_endsBehind_13 : decode (yB m_X6_endsBehind) 13 = .ok (.aload_n 0, 1) := by decide +kernel
theorem d_X6_endsBehind_14 : decode (yB m_X6_endsBehind) 14 = .ok (.getfield 9, 3) := by decide +kernel
theorem d_X6_endsBehind_17 : decode (yB m_X6_endsBehind) 17 = .ok (.iload_n 3, 1) := by decide +kernel
theorem d_X6_endsBehind_18 : decode (yB m_X6_endsBehind) 18 = .ok (.invokevirtual 41, 3) := by decide +kernel
theorem d_X6_endsBehind_21 : decode (yB m_X6_endsBehind) 21 = .ok (.istore 4, 2) := by decide +kernel
theorem d_X6_endsBehind_23 : decode (yB m_X6_endsBehind) 23 = .ok (.iload_n 3, 1) := by decide +kernel
theorem d_X6_endsBehind_24 : decode (yB m_X6_endsBehind) 24 = .ok (.iload_n 1, 1) := by decide +kernel
theorem d_X6_endsBehind_25 : decode (yB m_X6_endsBehind) 25 = .ok (.if_icmp .ne 12, 3) := by decide +kernel
theorem d_X6_endsBehind_28 : decode (yB m_X6_endsBehind) 28 = .ok (.iload 4, 2) := by decide +kernel
theorem d_X6_endsBehind_30 : decode (yB m_X6_endsBehind) 30 = .ok (.iconst 2, 1) := by decide +kernel
theorem d_X6_endsBehind_31 : decode (yB m_X6_endsBehind) 31 = .ok (.iload_n 2, 1) := by decide +kernel
theorem d_X6_endsBehind_32 : decode (yB m_X6_endsBehind) 32 = .ok (.ishl, 1) := by decide +kernel
theorem d_X6_endsBehind_33 : decode (yB m_X6_endsBehind) 33 = .ok (.ineg, 1) := by decide +kernel
theorem d_X6_endsBehind_34 : decode (yB m_X6_endsBehind) 34 = .ok (.iand, 1) := by decide +kernel
theorem d_X6_endsBehind_35 : decode (yB m_X6_endsBehind) 35 = .ok (.istore 4, 2) := by decide +kernel
theorem d_X6_endsBehind_37 : decode (yB m_X6_endsBehind) 37 = .ok (.iload 4, 2) := by decide +kernel
theorem d_X6_endsBehind_39 : decode (yB m_X6_endsBehind) 39 = .ok (.ifCond .eq 19, 3) := by decide +kernel
theorem d_X6_endsBehind_42 : decode (yB m_X6_endsBehind) 42 = .ok (.aload_n 0, 1) := by decide +kernel
theorem d_X6_endsBehind_43 : decode (yB m_X6_endsBehind) 43 = .ok (.bipush 100, 2) := by decide +kernel
theorem d_X6_endsBehind_45 : decode (yB m_X6_endsBehind) 45 = .ok (.iload_n 3, 1) := by decide +kernel
theorem d_X6_endsBehind_46 : decode (yB m_X6_endsBehind) 46 = .ok (.imul, 1) := by decide +kernel
theorem d_X6_endsBehind_47 : decode (yB m_X6_endsBehind) 47 = .ok (.iload 4, 2) := by decide +kernel
theorem d_X6_endsBehind_49 : decode (yB m_X6_endsBehind) 49 = .ok (.invokestatic 45, 3) := by decide +kernel
theorem d_X6_endsBehind_52 : decode (yB m_X6_endsBehind) 52 = .ok (.iadd, 1) := by decide +kernel
theorem d_X6_endsBehind_53 : decode (yB m_X6_endsBehind) 53 = .ok (.putfield 22, 3) := by decide +kernel
theorem d_X6_endsBehind_56 : decode (yB m_X6_endsBehind) 56 = .ok (.iconst 1, 1) := by decide +kernel
theorem d_X6_endsBehind_57 : decode (yB m_X6_endsBehind) 57 = .ok (.ireturn, 1) := by decide +kernel
theorem d_X6_endsBehind_58 : decode (yB m_X6_endsBehind) 58 = .ok (.iinc 3 1, 3) := by decide +kernel
theorem d_X6_endsBehind_61 : decode (yB m_X6_endsBehind) 61 = .ok (.goto (-59), 3) := by decide +kernel
theorem d_X6_endsBehind_64 : decode (yB m_X6_endsBehind) 64 = .ok (.iconst 0, 1) := by decide +kernel
theorem d_X6_endsBehind_65 : decode (yB m_X6_endsBehind) 65 = .ok (.ireturn, 1) := by decide +kernel
def fn_X6_endsBehind_42 (v1 : Int32) (v2 : Int32) (v3 : Int32) (v4 : Int32) (D : zD) : Option (Int32 × zD) := (fn_X11_lowestOf v4).bind fun x5 => zlet (sI D 85 3 (((100 : Int32) * v3) + x5)) fun D6 => (some ((1 : Int32), D6))
def fn_X6_endsBehind_37 (v1 : Int32) (v2 : Int32) (k2 : Int32 → zD → Option (Int32 × zD)) (v3 : Int32) (v4 : Int32) (D : zD) : Option (Int32 × zD) := (if v4 = 0 then ((k2 (v3 + (1 : Int32)) D)) else ((fn_X6_endsBehind_42 v1 v2 v3 v4 D)))
def fn_X6_endsBehind_2 (v1 : Int32) (v2 : Int32) : Nat → Int32 → zD → Option (Int32 × zD)
  | 0, _, _ => none
  | n + 1, v3, D => (if (gI D 86 4) ≤ v3 then ((some ((0 : Int32), D))) else ((fn_X10_curesOf 86 v3 D).bind fun x2 => (if v3 = v1 then (zlet (x2 &&& (-((2 : Int32) <<< (v2 &&& 31)))) fun x7 => (fn_X6_endsBehind_37 v1 v2 (fn_X6_endsBehind_2 v1 v2 n) v3 x7 D)) else ((fn_X6_endsBehind_37 v1 v2 (fn_X6_endsBehind_2 v1 v2 n) v3 x2 D)))))
def fn_X6_endsBehind (v1 : Int32) (v2 : Int32) (D : zD) : Option (Int32 × zD) := (fn_X6_endsBehind_2 v1 v2 zFU v1 D)
theorem s_X6_endsBehind_42 {X : zX} {Sh : zSh} {d : Nat} (hst : (zl X).stackTraces = false) (h0 : zSh0 Sh) (hd : 3 ≤ d) {v1 : Int32} {v2 : Int32} (v3 : Int32) (v4 : Int32) (D : zD)  : Rn X m_X6_endsBehind (d + 1) 42 [(0, .ref 85), (3, .int v3), (4, .int v4)] [] (Sh, D) ((oI Sh) (fn_X6_endsBehind_42 v1 v2 v3 v4 D)) := by
  rw [fn_X6_endsBehind_42]
  refine r_aload_n (pc := 42) 0 d_X6_endsBehind_42 rfl rfl ?_
  refine r_bipush (pc := 43) (100 : Int32) d_X6_endsBehind_43 rfl ?_
  refine r_iload_n (pc := 45) 1 d_X6_endsBehind_45 rfl rfl ?_
  refine r_imul (pc := 46) d_X6_endsBehind_46 ?_
  refine r_iload (pc := 47) 2 d_X6_endsBehind_47 rfl ?_
  refine q_cP (f := (oI Sh)) (av := [.int v4]) (st := [.int ((100 : Int32) * v3), .ref 85]) (z_runSN ck_X11_lowestOf rfl mn_X6_45 cs_X11_lowestOf rfl (Nat.le_of_ble_eq_true rfl) d_X6_endsBehind_49) (s_X11_lowestOf hst h0 (by omega)) kp_I (fun x5 _ => ?_)
  refine r_iadd (pc := 52) d_X6_endsBehind_52 ?_
  refine r_putI (pc := 53) p_X6_22 (K_85 h0) rfl (Or.inl rfl) d_X6_endsBehind_53 ?_
  refine r_letD (f := (oI Sh)) (fun D6 => ?_)
  refine r_iconst (pc := 56) (1 : Int32) d_X6_endsBehind_56 rfl ?_
  exact r_zret (pc := 57) rfl (by decide) d_X6_endsBehind_57
theorem s_X6_endsBehind_37 {X : zX} {Sh : zSh} {d : Nat} (hst : (zl X).stackTraces = false) (h0 : zSh0 Sh) (hd : 3 ≤ d) {v1 : Int32} {v2 : Int32} (k2 : Int32 → zD → Option (Int32 × zD)) (hk2 : ∀ (v3 : Int32) (D : zD) , Rn X m_X6_endsBehind (d + 1) 2 [(0, .ref 85), (1, .int v1), (2, .int v2), (3, .int v3)] [] (Sh, D) ((oI Sh) (k2 v3 D))) (v3 : Int32) (v4 : Int32) (D : zD)  : Rn X m_X6_endsBehind (d + 1) 37 [(0, .ref 85), (1, .int v1), (2, .int v2), (3, .int v3), (4, .int v4)] [] (Sh, D) ((oI Sh) (fn_X6_endsBehind_37 v1 v2 k2 v3 v4 D)) := by
  rw [fn_X6_endsBehind_37]
  refine r_iload (pc := 37) 4 d_X6_endsBehind_37 rfl ?_
  refine r_if_eq (f := (oI Sh)) (pc := 39) 58 d_X6_endsBehind_39 (by decide) (fun c4 => ?_) (fun c4 => ?_)
  · refine r_iinc (pc := 58) ((v3 + (1 : Int32))) 3 (ls' := [(3, .int (v3 + (1 : Int32))), (0, .ref 85), (1, .int v1), (2, .int v2), (4, .int v4)]) d_X6_endsBehind_58 rfl rfl (Nat.le_of_ble_eq_true rfl) rfl ?_
    refine r_goto (pc := 61) 2 d_X6_endsBehind_61 (by decide) ?_
    refine r_pick [1, 2, 3, 0] (ls' := [(0, .ref 85), (1, .int v1), (2, .int v2), (3, .int (v3 + (1 : Int32)))]) rfl ?_
    exact hk2 (v3 + (1 : Int32)) D 
  · refine r_pick [0, 3, 4] (ls' := [(0, .ref 85), (3, .int v3), (4, .int v4)]) rfl ?_
    exact s_X6_endsBehind_42 hst h0 hd v3 v4 D
theorem s_X6_endsBehind_2 {X : zX} {Sh : zSh} {d : Nat} (hst : (zl X).stackTraces = false) (h0 : zSh0 Sh) (hd : 3 ≤ d) {v1 : Int32} {v2 : Int32} : ∀ (n : Nat) (v3 : Int32) (D : zD) , Rn X m_X6_endsBehind (d + 1) 2 [(0, .ref 85), (1, .int v1), (2, .int v2), (3, .int v3)] [] (Sh, D) ((oI Sh) (fn_X6_endsBehind_2 v1 v2 n v3 D)) := by
  intro n
  induction n with
  | zero => intro v3 D; exact Rn_none rfl
  | succ n hk2 =>
    intro v3 D
    rw [fn_X6_endsBehind_2]
    refine r_iload_n (pc := 2) 3 d_X6_endsBehind_2 rfl rfl ?_
    refine r_aload_n (pc := 3) 0 d_X6_endsBehind_3 rfl rfl ?_
    refine r_getR (pc := 4) g_X6_9 (K_85 h0) rfl (R_85_0 h0) d_X6_endsBehind_4 ?_
    refine q_gIn (pc := 7) g_X6_38 (K_86 h0) rfl d_X6_endsBehind_7 ?_
    refine r_icmp_ge (f := (oI Sh)) (pc := 10) 64 d_X6_endsBehind_10 (by decide) (fun c1 => ?_) (fun c1 => ?_)
    · refine r_iconst (pc := 64) (0 : Int32) d_X6_endsBehind_64 rfl ?_
      exact r_zret (pc := 65) rfl (by decide) d_X6_endsBehind_65
    · refine r_aload_n (pc := 13) 0 d_X6_endsBehind_13 rfl rfl ?_
      refine r_getR (pc := 14) g_X6_9 (K_85 h0) rfl (R_85_0 h0) d_X6_endsBehind_14 ?_
      refine r_iload_n (pc := 17) 3 d_X6_endsBehind_17 rfl rfl ?_
      refine q_cP (f := (oI Sh)) (av := [.ref 86, .int v3]) (st := []) (z_runV ck_X10_curesOf rfl ml_X6_41 ci_X10_curesOf cv_X10_curesOf (K_86 h0) (ci := 10) rfl rfl (Nat.le_of_ble_eq_true rfl) d_X6_endsBehind_18) (s_X10_curesOf hst h0 (by omega) (I_86)) kp_I (fun x2 _ => ?_)
      refine r_istore (pc := 21) (ls' := [(4, .int x2), (0, .ref 85), (1, .int v1), (2, .int v2), (3, .int v3)]) d_X6_endsBehind_21 (Nat.le_of_ble_eq_true rfl) rfl ?_
      refine r_iload_n (pc := 23) 4 d_X6_endsBehind_23 rfl rfl ?_
      refine r_iload_n (pc := 24) 2 d_X6_endsBehind_24 rfl rfl ?_
      refine r_icmp_ne (f := (oI Sh)) (pc := 25) 37 d_X6_endsBehind_25 (by decide) (fun c3 => ?_) (fun c3 => ?_)
      · refine r_pick [1, 2, 3, 4, 0] (ls' := [(0, .ref 85), (1, .int v1), (2, .int v2), (3, .int v3), (4, .int x2)]) rfl ?_
        exact s_X6_endsBehind_37 hst h0 hd (fn_X6_endsBehind_2 v1 v2 n) hk2 v3 x2 D
      · refine r_iload (pc := 28) 0 d_X6_endsBehind_28 rfl ?_
        refine r_iconst (pc := 30) (2 : Int32) d_X6_endsBehind_30 rfl ?_
        refine r_iload_n (pc := 31) 3 d_X6_endsBehind_31 rfl rfl ?_
        refine r_ishl (pc := 32) d_X6_endsBehind_32 ?_
        refine r_ineg (pc := 33) d_X6_endsBehind_33 ?_
        refine r_iand (pc := 34) d_X6_endsBehind_34 ?_
        refine r_leti (f := (oI Sh)) (fun x7 => ?_)
        refine r_istore (pc := 35) (ls' := [(4, .int x7), (0, .ref 85), (1, .int v1), (2, .int v2), (3, .int v3)]) d_X6_endsBehind_35 (Nat.le_of_ble_eq_true rfl) rfl ?_
        refine r_pick [1, 2, 3, 4, 0] (ls' := [(0, .ref 85), (1, .int v1), (2, .int v2), (3, .int v3), (4, .int x7)]) rfl ?_
        exact s_X6_endsBehind_37 hst h0 hd (fn_X6_endsBehind_2 v1 v2 n) hk2 v3 x7 D
theorem s_X6_endsBehind {X : zX} {Sh : zSh} {d : Nat} (hst : (zl X).stackTraces = false) (h0 : zSh0 Sh) (hd : 4 ≤ d) {v1 : Int32} {v2 : Int32} {D : zD} : Sd X m_X6_endsBehind d [.ref 85, .int v1, .int v2] (Sh, D) ((oI Sh) (fn_X6_endsBehind v1 v2 D)) := by
  obtain ⟨d, rfl⟩ : ∃ e, d = e + 1 := ⟨d - 1, by omega⟩
  replace hd : 3 ≤ d := by omega
  refine z_body ck_X6_endsBehind rfl (Nat.le_of_ble_eq_true rfl) rfl hst ?_
  rw [fn_X6_endsBehind]
  show Rn X m_X6_endsBehind (d + 1) 0 [(0, .ref 85), (1, .int v1), (2, .int v2)] [] (Sh, D) _
  refine r_iload_n (pc := 0) 1 d_X6_endsBehind_0 rfl rfl ?_
  refine r_istore_n (pc := 1) (ls' := [(3, .int v1), (0, .ref 85), (1, .int v1), (2, .int v2)]) d_X6_endsBehind_1 rfl (Nat.le_of_ble_eq_true rfl) rfl ?_
  refine r_pick [1, 2, 3, 0] (ls' := [(0, .ref 85), (1, .int v1), (2, .int v2), (3, .int v1)]) rfl ?_
  exact s_X6_endsBehind_2 hst h0 hd zFU  v1 D
/-! CoveredSigns$Repair.byTwo -/
theorem d_X6_byTwo_0 : decode (yB m_X6_byTwo) 0 = .ok (.aload_n 0, 1) := by decide +kernel
theorem d_X6_byTwo_1 : decode (yB m_X6_byTwo) 1 = .ok (.getfield 9, 3) := by decide +kernel
theorem d_X6_byTwo_4 : decode (yB m_X6_byTwo) 4 = .ok (.ifnonnull 4, 3) := by decide +kernel
theorem d_X6_byTwo_7 : decode (yB m_X6_byTwo) 7 = .ok (.return_, 1) := by decide +kernel
theorem d_X6_byTwo_8 : decode (yB m_X6_byTwo) 8 = .ok (.iconst 0, 1) := by decide +kernel
theorem d_X6_byTwo_9 : decode (yB m_X6_byTwo) 9 = .ok (.istore_n 2, 1) := by decide +kernel
theorem d_X6_byTwo_10 : decode (yB m_X6_byTwo) 10 = .ok (.iload_n 2, 1) := by decide +kernel
theorem d_X6_byTwo_11 : decode (yB m_X6_byTwo) 11 = .ok (.aload_n 1, 1) := by decide +kernel
theorem d_X6_byTwo_12 : decode (yB m_X6_byTwo) 12 = .ok (.getfield 38, 3) := by decide +kernel
theorem d_X6_byTwo_15 : decode (yB m_X6_byTwo) 15 = .ok (.if_icmp .ge 75, 3) := by decide +kernel
theorem d_X6_byTwo_18 : decode (yB m_X6_byTwo) 18 = .ok (.iconst 0, 1) := by decide +kernel
theorem d_X6_byTwo_19 : decode (yB m_X6_byTwo) 19 = .ok (.istore_n 3, 1) := by decide +kernel
theorem d_X6_byTwo_20 : decode (yB m_X6_byTwo) 20 = .ok (.iload_n 3, 1) := by decide +kernel
theorem d_X6_byTwo_21 : decode (yB m_X6_byTwo) 21 = .ok (.aload_n 1, 1) := by decide +kernel
theorem d_X6_byTwo_22 : decode (yB m_X6_byTwo) 22 = .ok (.getfield 48, 3) := by decide +kernel
theorem d_X6_byTwo_25 : decode (yB m_X6_byTwo) 25 = .ok (.if_icmp .ge 59, 3) := by decide +kernel
theorem d_X6_byTwo_28 : decode (yB m_X6_byTwo) 28 = .ok (.aload_n 1, 1) := by decide +kernel
theorem d_X6_byTwo_29 : decode (yB m_X6_byTwo) 29 = .ok (.iload_n 2, 1) := by decide +kernel
theorem d_X6_byTwo_30 : decode (yB m_X6_byTwo) 30 = .ok (.invokevirtual 51, 3) := by decide +kernel
theorem d_X6_byTwo_33 : decode (yB m_X6_byTwo) 33 = .ok (.ifCond .eq 51, 3) := by decide +kernel
theorem d_X6_byTwo_36 : decode (yB m_X6_byTwo) 36 = .ok (.aload_n 0, 1) := by decide +kernel
theorem d_X6_byTwo_37 : decode (yB m_X6_byTwo) 37 = .ok (.getfield 9, 3) := by decide +kernel
theorem d_X6_byTwo_40 : decode (yB m_X6_byTwo) 40 = .ok (.aload_n 1, 1) := by decide +kernel
theorem d_X6_byTwo_41 : decode (yB m_X6_byTwo) 41 = .ok (.invokevirtual 55, 3) := by decide +kernel
theorem d_X6_byTwo_44 : decode (yB m_X6_byTwo) 44 = .ok (.aload_n 0, 1) := by decide +kernel
theorem d_X6_byTwo_45 : decode (yB m_X6_byTwo) 45 = .ok (.getfield 9, 3) := by decide +kernel
theorem d_X6_byTwo_48 : decode (yB m_X6_byTwo) 48 = .ok (.iload_n 2, 1) := by decide +kernel
theorem d_X6_byTwo_49 : decode (yB m_X6_byTwo) 49 = .ok (.iload_n 3, 1) := by decide +kernel
theorem d_X6_byTwo_50 : decode (yB m_X6_byTwo) 50 = .ok (.invokevirtual 58, 3) := by decide +kernel
theorem d_X6_byTwo_53 : decode (yB m_X6_byTwo) 53 = .ok (.aload_n 0, 1) := by decide +kernel
theorem d_X6_byTwo_54 : decode (yB m_X6_byTwo) 54 = .ok (.iload_n 2, 1) := by decide +kernel
theorem d_X6_byTwo_55 : decode (yB m_X6_byTwo) 55 = .ok (.iload_n 3, 1) := by decide +kernel
theorem d_X6_byTwo_56 : decode (yB m_X6_byTwo) 56 = .ok (.invokevirtual 62, 3) := by decide +kernel
theorem d_X6_byTwo_59 : decode (yB m_X6_byTwo) 59 = .ok (.ifCond .eq 19, 3) := by decide +kernel
theorem d_X6_byTwo_62 : decode (yB m_X6_byTwo) 62 = .ok (.aload_n 0, 1) := by decide +kernel
theorem d_X6_byTwo_63 : decode (yB m_X6_byTwo) 63 = .ok (.iconst 2, 1) := by decide +kernel
theorem d_X6_byTwo_64 : decode (yB m_X6_byTwo) 64 = .ok (.putfield 15, 3) := by decide +kernel
theorem d_X6_byTwo_67 : decode (yB m_X6_byTwo) 67 = .ok (.aload_n 0, 1) := by decide +kernel
theorem d_X6_byTwo_68 : decode (yB m_X6_byTwo) 68 = .ok (.bipush 100, 2) := by decide +kernel
theorem d_X6_byTwo_70 : decode (yB m_X6_byTwo) 70 = .ok (.iload_n 2, 1) := by decide +kernel
theorem d_X6_byTwo_71 : decode (yB m_X6_byTwo) 71 = .ok (.imul, 1) := by decide +kernel
theorem d_X6_byTwo_72 : decode (yB m_X6_byTwo) 72 = .ok (.iload_n 3, 1) := by decide +kernel
theorem d_X6_byTwo_73 : decode (yB m_X6_byTwo) 73 = .ok (.iadd, 1) := by decide +kernel
theorem d_X6_byTwo_74 : decode (yB m_X6_byTwo) 74 = .ok (.putfield 19, 3) := by decide +kernel
theorem d_X6_byTwo_77 : decode (yB m_X6_byTwo) 77 = .ok (.return_, 1) := by decide +kernel
theorem d_X6_byTwo_78 : decode (yB m_X6_byTwo) 78 = .ok (.iinc 3 1, 3) := by decide +kernel
theorem d_X6_byTwo_81 : decode (yB m_X6_byTwo) 81 = .ok (.goto (-61), 3) := by decide +kernel
theorem d_X6_byTwo_84 : decode (yB m_X6_byTwo) 84 = .ok (.iinc 2 1, 3) := by decide +kernel
theorem d_X6_byTwo_87 : decode (yB m_X6_byTwo) 87 = .ok (.goto (-77), 3) := by decide +kernel
theorem d_X6_byTwo_90 : decode (yB m_X6_byTwo) 90 = .ok (.return_, 1) := by decide +kernel
def fn_X6_byTwo_62 (a1 : Nat) (v2 : Int32) (v3 : Int32) (D : zD) : Option zD := zlet (sI D 85 1 (2 : Int32)) fun D9 => zlet (sI D9 85 2 (((100 : Int32) * v2) + v3)) fun D10 => (some D10)
def fn_X6_byTwo_20 (a1 : Nat) (k10 : Int32 → zD → Option zD) : Nat → Int32 → Int32 → zD → Option zD
  | 0, _, _, _ => none
  | n + 1, v2, v3, D => (if (gI D a1 5) ≤ v3 then ((k10 (v2 + (1 : Int32)) D)) else ((fn_X10_hangsOn a1 v2 D).bind fun x3 => (if x3 = 0 then ((k10 (v2 + (1 : Int32)) D)) else ((fn_X10_copyFrom 86 a1 D).bind fun D5 => (fn_X10_flip 86 v2 v3 D5).bind fun D6 => (fn_X6_endsBehind v2 v3 D6).bind fun q7 => (if q7.1 = 0 then (((fn_X6_byTwo_20 a1 k10 n) v2 (v3 + (1 : Int32)) q7.2)) else ((fn_X6_byTwo_62 a1 v2 v3 q7.2)))))))
def fn_X6_byTwo_10 (a1 : Nat) : Nat → Int32 → zD → Option zD
  | 0, _, _ => none
  | n + 1, v2, D => (if (gI D a1 4) ≤ v2 then ((some D)) else ((fn_X6_byTwo_20 a1 (fn_X6_byTwo_10 a1 n) zFU v2 (0 : Int32) D)))
def fn_X6_byTwo (a1 : Nat) (D : zD) : Option zD := (fn_X6_byTwo_10 a1 zFU (0 : Int32) D)
theorem s_X6_byTwo_62 {X : zX} {Sh : zSh} {d : Nat} (hst : (zl X).stackTraces = false) (h0 : zSh0 Sh) (hd : 5 ≤ d) {a1 : Nat} (h_a1 : a1 ∈ zI_10) (v2 : Int32) (v3 : Int32) (D : zD)  : Rn X m_X6_byTwo (d + 1) 62 [(0, .ref 85), (2, .int v2), (3, .int v3)] [] (Sh, D) ((oV Sh) (fn_X6_byTwo_62 a1 v2 v3 D)) := by
  rw [fn_X6_byTwo_62]
  refine r_aload_n (pc := 62) 0 d_X6_byTwo_62 rfl rfl ?_
  refine r_iconst (pc := 63) (2 : Int32) d_X6_byTwo_63 rfl ?_
  refine r_putI (pc := 64) p_X6_15 (K_85 h0) rfl (Or.inl rfl) d_X6_byTwo_64 ?_
  refine r_letD (f := (oV Sh)) (fun D9 => ?_)
  refine r_aload_n (pc := 67) 0 d_X6_byTwo_67 rfl rfl ?_
  refine r_bipush (pc := 68) (100 : Int32) d_X6_byTwo_68 rfl ?_
  refine r_iload_n (pc := 70) 1 d_X6_byTwo_70 rfl rfl ?_
  refine r_imul (pc := 71) d_X6_byTwo_71 ?_
  refine r_iload_n (pc := 72) 2 d_X6_byTwo_72 rfl rfl ?_
  refine r_iadd (pc := 73) d_X6_byTwo_73 ?_
  refine r_putI (pc := 74) p_X6_19 (K_85 h0) rfl (Or.inl rfl) d_X6_byTwo_74 ?_
  refine r_letD (f := (oV Sh)) (fun D10 => ?_)
  exact r_vret (pc := 77) rfl d_X6_byTwo_77
theorem s_X6_byTwo_20 {X : zX} {Sh : zSh} {d : Nat} (hst : (zl X).stackTraces = false) (h0 : zSh0 Sh) (hd : 5 ≤ d) {a1 : Nat} (h_a1 : a1 ∈ zI_10) (k10 : Int32 → zD → Option zD) (hk10 : ∀ (v2 : Int32) (D : zD) , Rn X m_X6_byTwo (d + 1) 10 [(0, .ref 85), (1, .ref a1), (2, .int v2)] [] (Sh, D) ((oV Sh) (k10 v2 D))) : ∀ (n : Nat) (v2 : Int32) (v3 : Int32) (D : zD) , Rn X m_X6_byTwo (d + 1) 20 [(0, .ref 85), (1, .ref a1), (2, .int v2), (3, .int v3)] [] (Sh, D) ((oV Sh) (fn_X6_byTwo_20 a1 k10 n v2 v3 D)) := by
  intro n
  induction n with
  | zero => intro v2 v3 D; exact Rn_none rfl
  | succ n hk20 =>
    intro v2 v3 D
    rw [fn_X6_byTwo_20]
    refine r_iload_n (pc := 20) 3 d_X6_byTwo_20 rfl rfl ?_
    refine r_aload_n (pc := 21) 1 d_X6_byTwo_21 rfl rfl ?_
    refine q_gIn (pc := 22) g_X6_48 (LK_10 h0 h_a1) rfl d_X6_byTwo_22 ?_
    refine r_icmp_ge (f := (oV Sh)) (pc := 25) 84 d_X6_byTwo_25 (by decide) (fun c2 => ?_) (fun c2 => ?_)
    · refine r_iinc (pc := 84) ((v2 + (1 : Int32))) 2 (ls' := [(2, .int (v2 + (1 : Int32))), (0, .ref 85), (1, .ref a1), (3, .int v3)]) d_X6_byTwo_84 rfl rfl (Nat.le_of_ble_eq_true rfl) rfl ?_
      refine r_goto (pc := 87) 10 d_X6_byTwo_87 (by decide) ?_
      refine r_pick [1, 2, 0] (ls' := [(0, .ref 85), (1, .ref a1), (2, .int (v2 + (1 : Int32)))]) rfl ?_
      exact hk10 (v2 + (1 : Int32)) D 
    · refine r_aload_n (pc := 28) 1 d_X6_byTwo_28 rfl rfl ?_
      refine r_iload_n (pc := 29) 2 d_X6_byTwo_29 rfl rfl ?_
      refine q_cP (f := (oV Sh)) (av := [.ref a1, .int v2]) (st := []) (z_runV ck_X10_hangsOn rfl ml_X6_51 ci_X10_hangsOn cv_X10_hangsOn (LK_10 h0 h_a1) (ci := 10) rfl rfl (Nat.le_of_ble_eq_true rfl) d_X6_byTwo_30) (s_X10_hangsOn hst h0 (by omega) h_a1) kp_V (fun x3 _ => ?_)
      refine r_if_eq (f := (oV Sh)) (pc := 33) 84 d_X6_byTwo_33 (by decide) (fun c4 => ?_) (fun c4 => ?_)
      · refine r_iinc (pc := 84) ((v2 + (1 : Int32))) 2 (ls' := [(2, .int (v2 + (1 : Int32))), (0, .ref 85), (1, .ref a1), (3, .int v3)]) d_X6_byTwo_84 rfl rfl (Nat.le_of_ble_eq_true rfl) rfl ?_
        refine r_goto (pc := 87) 10 d_X6_byTwo_87 (by decide) ?_
        refine r_pick [1, 2, 0] (ls' := [(0, .ref 85), (1, .ref a1), (2, .int (v2 + (1 : Int32)))]) rfl ?_
        exact hk10 (v2 + (1 : Int32)) D 
      · refine r_aload_n (pc := 36) 0 d_X6_byTwo_36 rfl rfl ?_
        refine r_getR (pc := 37) g_X6_9 (K_85 h0) rfl (R_85_0 h0) d_X6_byTwo_37 ?_
        refine r_aload_n (pc := 40) 1 d_X6_byTwo_40 rfl rfl ?_
        refine q_cV (f := (oV Sh)) (av := [.ref 86, .ref a1]) (st := []) (z_runV ck_X10_copyFrom rfl ml_X6_55 ci_X10_copyFrom cv_X10_copyFrom (K_86 h0) (ci := 10) rfl rfl (Nat.le_of_ble_eq_true rfl) d_X6_byTwo_41) (s_X10_copyFrom hst h0 (by omega) (I_86) h_a1) kp_V (fun D5 _ => ?_)
        refine r_aload_n (pc := 44) 0 d_X6_byTwo_44 rfl rfl ?_
        refine r_getR (pc := 45) g_X6_9 (K_85 h0) rfl (R_85_0 h0) d_X6_byTwo_45 ?_
        refine r_iload_n (pc := 48) 2 d_X6_byTwo_48 rfl rfl ?_
        refine r_iload_n (pc := 49) 3 d_X6_byTwo_49 rfl rfl ?_
        refine q_cV (f := (oV Sh)) (av := [.ref 86, .int v2, .int v3]) (st := []) (z_runV ck_X10_flip rfl ml_X6_58 ci_X10_flip cv_X10_flip (K_86 h0) (ci := 10) rfl rfl (Nat.le_of_ble_eq_true rfl) d_X6_byTwo_50) (s_X10_flip hst h0 (by omega) (I_86)) kp_V (fun D6 _ => ?_)
        refine r_aload_n (pc := 53) 0 d_X6_byTwo_53 rfl rfl ?_
        refine r_iload_n (pc := 54) 2 d_X6_byTwo_54 rfl rfl ?_
        refine r_iload_n (pc := 55) 3 d_X6_byTwo_55 rfl rfl ?_
        refine q_cI (f := (oV Sh)) (av := [.ref 85, .int v2, .int v3]) (st := []) (z_runV ck_X6_endsBehind rfl ml_X6_62 ci_X6_endsBehind cv_X6_endsBehind (K_85 h0) (ci := 6) rfl rfl (Nat.le_of_ble_eq_true rfl) d_X6_byTwo_56) (s_X6_endsBehind hst h0 (by omega)) kp_V (fun q7 _ => ?_)
        refine r_if_eq (f := (oV Sh)) (pc := 59) 78 d_X6_byTwo_59 (by decide) (fun c8 => ?_) (fun c8 => ?_)
        · refine r_iinc (pc := 78) ((v3 + (1 : Int32))) 3 (ls' := [(3, .int (v3 + (1 : Int32))), (0, .ref 85), (1, .ref a1), (2, .int v2)]) d_X6_byTwo_78 rfl rfl (Nat.le_of_ble_eq_true rfl) rfl ?_
          refine r_goto (pc := 81) 20 d_X6_byTwo_81 (by decide) ?_
          refine r_pick [1, 2, 3, 0] (ls' := [(0, .ref 85), (1, .ref a1), (2, .int v2), (3, .int (v3 + (1 : Int32)))]) rfl ?_
          exact hk20 v2 (v3 + (1 : Int32)) q7.2 
        · refine r_pick [0, 2, 3] (ls' := [(0, .ref 85), (2, .int v2), (3, .int v3)]) rfl ?_
          exact s_X6_byTwo_62 hst h0 hd h_a1 v2 v3 q7.2
theorem s_X6_byTwo_10 {X : zX} {Sh : zSh} {d : Nat} (hst : (zl X).stackTraces = false) (h0 : zSh0 Sh) (hd : 5 ≤ d) {a1 : Nat} (h_a1 : a1 ∈ zI_10) : ∀ (n : Nat) (v2 : Int32) (D : zD) , Rn X m_X6_byTwo (d + 1) 10 [(0, .ref 85), (1, .ref a1), (2, .int v2)] [] (Sh, D) ((oV Sh) (fn_X6_byTwo_10 a1 n v2 D)) := by
  intro n
  induction n with
  | zero => intro v2 D; exact Rn_none rfl
  | succ n hk10 =>
    intro v2 D
    rw [fn_X6_byTwo_10]
    refine r_iload_n (pc := 10) 2 d_X6_byTwo_10 rfl rfl ?_
    refine r_aload_n (pc := 11) 1 d_X6_byTwo_11 rfl rfl ?_
    refine q_gIn (pc := 12) g_X6_38 (LK_10 h0 h_a1) rfl d_X6_byTwo_12 ?_
    refine r_icmp_ge (f := (oV Sh)) (pc := 15) 90 d_X6_byTwo_15 (by decide) (fun c1 => ?_) (fun c1 => ?_)
    · exact r_vret (pc := 90) rfl d_X6_byTwo_90
    · refine r_iconst (pc := 18) (0 : Int32) d_X6_byTwo_18 rfl ?_
      refine r_istore_n (pc := 19) (ls' := [(3, .int (0 : Int32)), (0, .ref 85), (1, .ref a1), (2, .int v2)]) d_X6_byTwo_19 rfl (Nat.le_of_ble_eq_true rfl) rfl ?_
      refine r_pick [1, 2, 3, 0] (ls' := [(0, .ref 85), (1, .ref a1), (2, .int v2), (3, .int (0 : Int32))]) rfl ?_
      exact s_X6_byTwo_20 hst h0 hd h_a1 (fn_X6_byTwo_10 a1 n) hk10 zFU  v2 (0 : Int32) D
theorem s_X6_byTwo {X : zX} {Sh : zSh} {d : Nat} (hst : (zl X).stackTraces = false) (h0 : zSh0 Sh) (hd : 6 ≤ d) {a1 : Nat} (h_a1 : a1 ∈ zI_10) {D : zD} : Sd X m_X6_byTwo d [.ref 85, .ref a1] (Sh, D) ((oV Sh) (fn_X6_byTwo a1 D)) := by
  obtain ⟨d, rfl⟩ : ∃ e, d = e + 1 := ⟨d - 1, by omega⟩
  replace hd : 5 ≤ d := by omega
  refine z_body ck_X6_byTwo rfl (Nat.le_of_ble_eq_true rfl) rfl hst ?_
  rw [fn_X6_byTwo]
  show Rn X m_X6_byTwo (d + 1) 0 [(0, .ref 85), (1, .ref a1)] [] (Sh, D) _
  refine r_aload_n (pc := 0) 0 d_X6_byTwo_0 rfl rfl ?_
  refine r_getR (pc := 1) g_X6_9 (K_85 h0) rfl (R_85_0 h0) d_X6_byTwo_1 ?_
  refine r_nonnull (pc := 4) 8 d_X6_byTwo_4 (by decide) ?_
  refine r_iconst (pc := 8) (0 : Int32) d_X6_byTwo_8 rfl ?_
  refine r_istore_n (pc := 9) (ls' := [(2, .int (0 : Int32)), (0, .ref 85), (1, .ref a1)]) d_X6_byTwo_9 rfl (Nat.le_of_ble_eq_true rfl) rfl ?_
  refine r_pick [1, 2, 0] (ls' := [(0, .ref 85), (1, .ref a1), (2, .int (0 : Int32))]) rfl ?_
  exact s_X6_byTwo_10 hst h0 hd h_a1 zFU  (0 : Int32) D
/-! CoveredSigns$Repair.find -/
theorem d_X6_find_0 : decode (yB m_X6_find) 0 = .ok (.aload_n 0, 1) := by decide +kernel
theorem d_X6_find_1 : decode (yB m_X6_find) 1 = .ok (.iconst (-1), 1) := by decide +kernel
theorem d_X6_find_2 : decode (yB m_X6_find) 2 = .ok (.putfield 15, 3) := by decide +kernel
theorem d_X6_find_5 : decode (yB m_X6_find) 5 = .ok (.aload_n 0, 1) := by decide +kernel
theorem d_X6_find_6 : decode (yB m_X6_find) 6 = .ok (.iconst (-1), 1) := by decide +kernel
theorem d_X6_find_7 : decode (yB m_X6_find) 7 = .ok (.putfield 19, 3) := by decide +kernel
theorem d_X6_find_10 : decode (yB m_X6_find) 10 = .ok (.aload_n 0, 1) := by decide +kernel
theorem d_X6_find_11 : decode (yB m_X6_find) 11 = .ok (.iconst (-1), 1) := by decide +kernel
theorem d_X6_find_12 : decode (yB m_X6_find) 12 = .ok (.putfield 22, 3) := by decide +kernel
theorem d_X6_find_15 : decode (yB m_X6_find) 15 = .ok (.aload_n 1, 1) := by decide +kernel
theorem d_X6_find_16 : decode (yB m_X6_find) 16 = .ok (.getfield 25, 3) := by decide +kernel
theorem d_X6_find_19 : decode (yB m_X6_find) 19 = .ok (.ifCond .ne 11, 3) := by decide +kernel
theorem d_X6_find_22 : decode (yB m_X6_find) 22 = .ok (.aload_n 0, 1) := by decide +kernel
theorem d_X6_find_23 : decode (yB m_X6_find) 23 = .ok (.iconst 0, 1) := by decide +kernel
theorem d_X6_find_24 : decode (yB m_X6_find) 24 = .ok (.putfield 15, 3) := by decide +kernel
theorem d_X6_find_27 : decode (yB m_X6_find) 27 = .ok (.goto 16, 3) := by decide +kernel
theorem d_X6_find_30 : decode (yB m_X6_find) 30 = .ok (.aload_n 0, 1) := by decide +kernel
theorem d_X6_find_31 : decode (yB m_X6_find) 31 = .ok (.aload_n 1, 1) := by decide +kernel
theorem d_X6_find_32 : decode (yB m_X6_find) 32 = .ok (.invokevirtual 30, 3) := by decide +kernel
theorem d_X6_find_35 : decode (yB m_X6_find) 35 = .ok (.ifCond .ne 8, 3) := by decide +kernel
theorem d_X6_find_38 : decode (yB m_X6_find) 38 = .ok (.aload_n 0, 1) := by decide +kernel
theorem d_X6_find_39 : decode (yB m_X6_find) 39 = .ok (.aload_n 1, 1) := by decide +kernel
theorem d_X6_find_40 : decode (yB m_X6_find) 40 = .ok (.invokevirtual 34, 3) := by decide +kernel
theorem d_X6_find_43 : decode (yB m_X6_find) 43 = .ok (.return_, 1) := by decide +kernel
def fn_X6_find (a1 : Nat) (D : zD) : Option zD := zlet (sI D 85 1 (-1 : Int32)) fun D1 => zlet (sI D1 85 2 (-1 : Int32)) fun D2 => zlet (sI D2 85 3 (-1 : Int32)) fun D3 => (if (gI D3 a1 7) = 0 then (zlet (sI D3 85 1 (0 : Int32)) fun D8 => (some D8)) else ((fn_X6_byOne a1 D3).bind fun q5 => (if q5.1 = 0 then ((fn_X6_byTwo a1 q5.2).bind fun D7 => (some D7)) else ((some q5.2)))))
theorem s_X6_find {X : zX} {Sh : zSh} {d : Nat} (hst : (zl X).stackTraces = false) (h0 : zSh0 Sh) (hd : 7 ≤ d) {a1 : Nat} (h_a1 : a1 ∈ zI_10) {D : zD} : Sd X m_X6_find d [.ref 85, .ref a1] (Sh, D) ((oV Sh) (fn_X6_find a1 D)) := by
  obtain ⟨d, rfl⟩ : ∃ e, d = e + 1 := ⟨d - 1, by omega⟩
  replace hd : 6 ≤ d := by omega
  refine z_body ck_X6_find rfl (Nat.le_of_ble_eq_true rfl) rfl hst ?_
  rw [fn_X6_find]
  show Rn X m_X6_find (d + 1) 0 [(0, .ref 85), (1, .ref a1)] [] (Sh, D) _
  refine r_aload_n (pc := 0) 0 d_X6_find_0 rfl rfl ?_
  refine r_iconst (pc := 1) (-1 : Int32) d_X6_find_1 rfl ?_
  refine r_putI (pc := 2) p_X6_15 (K_85 h0) rfl (Or.inl rfl) d_X6_find_2 ?_
  refine r_letD (f := (oV Sh)) (fun D1 => ?_)
  refine r_aload_n (pc := 5) 0 d_X6_find_5 rfl rfl ?_
  refine r_iconst (pc := 6) (-1 : Int32) d_X6_find_6 rfl ?_
  refine r_putI (pc := 7) p_X6_19 (K_85 h0) rfl (Or.inl rfl) d_X6_find_7 ?_
  refine r_letD (f := (oV Sh)) (fun D2 => ?_)
  refine r_aload_n (pc := 10) 0 d_X6_find_10 rfl rfl ?_
  refine r_iconst (pc := 11) (-1 : Int32) d_X6_find_11 rfl ?_
  refine r_putI (pc := 12) p_X6_22 (K_85 h0) rfl (Or.inl rfl) d_X6_find_12 ?_
  refine r_letD (f := (oV Sh)) (fun D3 => ?_)
  refine r_aload_n (pc := 15) 1 d_X6_find_15 rfl rfl ?_
  refine q_gIn (pc := 16) g_X6_25 (LK_10 h0 h_a1) rfl d_X6_find_16 ?_
  refine r_if_ne (f := (oV Sh)) (pc := 19) 30 d_X6_find_19 (by decide) (fun c4 => ?_) (fun c4 => ?_)
  · refine r_aload_n (pc := 30) 0 d_X6_find_30 rfl rfl ?_
    refine r_aload_n (pc := 31) 1 d_X6_find_31 rfl rfl ?_
    refine q_cI (f := (oV Sh)) (av := [.ref 85, .ref a1]) (st := []) (z_runV ck_X6_byOne rfl ml_X6_30 ci_X6_byOne cv_X6_byOne (K_85 h0) (ci := 6) rfl rfl (Nat.le_of_ble_eq_true rfl) d_X6_find_32) (s_X6_byOne hst h0 (by omega) h_a1) kp_V (fun q5 _ => ?_)
    refine r_if_ne (f := (oV Sh)) (pc := 35) 43 d_X6_find_35 (by decide) (fun c6 => ?_) (fun c6 => ?_)
    · exact r_vret (pc := 43) rfl d_X6_find_43
    · refine r_aload_n (pc := 38) 0 d_X6_find_38 rfl rfl ?_
      refine r_aload_n (pc := 39) 1 d_X6_find_39 rfl rfl ?_
      refine q_cV (f := (oV Sh)) (av := [.ref 85, .ref a1]) (st := []) (z_runV ck_X6_byTwo rfl ml_X6_34 ci_X6_byTwo cv_X6_byTwo (K_85 h0) (ci := 6) rfl rfl (Nat.le_of_ble_eq_true rfl) d_X6_find_40) (s_X6_byTwo hst h0 (by omega) h_a1) kp_V (fun D7 _ => ?_)
      exact r_vret (pc := 43) rfl d_X6_find_43
  · refine r_aload_n (pc := 22) 0 d_X6_find_22 rfl rfl ?_
    refine r_iconst (pc := 23) (0 : Int32) d_X6_find_23 rfl ?_
    refine r_putI (pc := 24) p_X6_15 (K_85 h0) rfl (Or.inl rfl) d_X6_find_24 ?_
    refine r_letD (f := (oV Sh)) (fun D8 => ?_)
    refine r_goto (pc := 27) 43 d_X6_find_27 (by decide) ?_
    exact r_vret (pc := 43) rfl d_X6_find_43
/-! CoveredSigns$Repair.stepIsDone -/
theorem d_X6_stepIsDone_0 : decode (yB m_X6_stepIsDone) 0 = .ok (.aload_n 0, 1) := by decide +kernel
theorem d_X6_stepIsDone_1 : decode (yB m_X6_stepIsDone) 1 = .ok (.getfield 9, 3) := by decide +kernel
theorem d_X6_stepIsDone_4 : decode (yB m_X6_stepIsDone) 4 = .ok (.getfield 25, 3) := by decide +kernel
theorem d_X6_stepIsDone_7 : decode (yB m_X6_stepIsDone) 7 = .ok (.istore_n 1, 1) := by decide +kernel
theorem d_X6_stepIsDone_8 : decode (yB m_X6_stepIsDone) 8 = .ok (.iconst (-1), 1) := by decide +kernel
theorem d_X6_stepIsDone_9 : decode (yB m_X6_stepIsDone) 9 = .ok (.istore_n 2, 1) := by decide +kernel
theorem d_X6_stepIsDone_10 : decode (yB m_X6_stepIsDone) 10 = .ok (.iconst (-1), 1) := by decide +kernel
theorem d_X6_stepIsDone_11 : decode (yB m_X6_stepIsDone) 11 = .ok (.istore_n 3, 1) := by decide +kernel
theorem d_X6_stepIsDone_12 : decode (yB m_X6_stepIsDone) 12 = .ok (.iconst 0, 1) := by decide +kernel
theorem d_X6_stepIsDone_13 : decode (yB m_X6_stepIsDone) 13 = .ok (.istore 4, 2) := by decide +kernel
theorem d_X6_stepIsDone_15 : decode (yB m_X6_stepIsDone) 15 = .ok (.iload 4, 2) := by decide +kernel
theorem d_X6_stepIsDone_17 : decode (yB m_X6_stepIsDone) 17 = .ok (.aload_n 0, 1) := by decide +kernel
theorem d_X6_stepIsDone_18 : decode (yB m_X6_stepIsDone) 18 = .ok (.getfield 9, 3) := by decide +kernel
theorem d_X6_stepIsDone_21 : decode (yB m_X6_stepIsDone) 21 = .ok (.getfield 38, 3) := by decide +kernel
theorem d_X6_stepIsDone_24 : decode (yB m_X6_stepIsDone) 24 = .ok (.if_icmp .ge 58, 3) := by decide +kernel
theorem d_X6_stepIsDone_27 : decode (yB m_X6_stepIsDone) 27 = .ok (.iconst 0, 1) := by decide +kernel
theorem d_X6_stepIsDone_28 : decode (yB m_X6_stepIsDone) 28 = .ok (.istore 5, 2) := by decide +kernel
theorem d_X6_stepIsDone_30 : decode (yB m_X6_stepIsDone) 30 = .ok (.iload 5, 2) := by decide +kernel
theorem d_X6_stepIsDone_32 : decode (yB m_X6_stepIsDone) 32 = .ok (.aload_n 0, 1) := by decide +kernel
theorem d_X6_stepIsDone_33 : decode (yB m_X6_stepIsDone) 33 = .ok (.getfield 9, 3) := by decide +kernel
theorem d_X6_stepIsDone_36 : decode (yB m_X6_stepIsDone) 36 = .ok (.getfield 48, 3) := by decide +kernel
theorem d_X6_stepIsDone_39 : decode (yB m_X6_stepIsDone) 39 = .ok (.if_icmp .ge 37, 3) := by decide +kernel
theorem d_X6_stepIsDone_42 : decode (yB m_X6_stepIsDone) 42 = .ok (.aload_n 0, 1) := by decide +kernel
theorem d_X6_stepIsDone_43 : decode (yB m_X6_stepIsDone) 43 = .ok (.getfield 9, 3) := by decide +kernel
theorem d_X6_stepIsDone_46 : decode (yB m_X6_stepIsDone) 46 = .ok (.iload 4, 2) := by decide +kernel
theorem d_X6_stepIsDone_48 : decode (yB m_X6_stepIsDone) 48 = .ok (.iload 5, 2) := by decide +kernel
theorem d_X6_stepIsDone_50 : decode (yB m_X6_stepIsDone) 50 = .ok (.invokevirtual 70, 3) := by decide +kernel
theorem d_X6_stepIsDone_53 : decode (yB m_X6_stepIsDone) 53 = .ok (.istore 6, 2) := by decide +kernel
theorem d_X6_stepIsDone_55 : decode (yB m_X6_stepIsDone) 55 = .ok (.iload 6, 2) := by decide +kernel
theorem d_X6_stepIsDone_57 : decode (yB m_X6_stepIsDone) 57 = .ok (.iload_n 1, 1) := by decide +kernel
theorem d_X6_stepIsDone_58 : decode (yB m_X6_stepIsDone) 58 = .ok (.if_icmp .ge 12, 3) := by decide +kernel
theorem d_X6_stepIsDone_61 : decode (yB m_X6_stepIsDone) 61 = .ok (.iload 6, 2) := by decide +kernel
theorem d_X6_stepIsDone_63 : decode (yB m_X6_stepIsDone) 63 = .ok (.istore_n 1, 1) := by decide +kernel
theorem d_X6_stepIsDone_64 : decode (yB m_X6_stepIsDone) 64 = .ok (.iload 4, 2) := by decide +kernel
theorem d_X6_stepIsDone_66 : decode (yB m_X6_stepIsDone) 66 = .ok (.istore_n 2, 1) := by decide +kernel
theorem d_X6_stepIsDone_67 : decode (yB m_X6_stepIsDone) 67 = .ok (.iload 5, 2) := by decide +kernel
theorem d_X6_stepIsDone_69 : decode (yB m_X6_stepIsDone) 69 = .ok (.istore_n 3, 1) := by decide +kernel
theorem d_X6_stepIsDone_70 : decode (yB m_X6_stepIsDone) 70 = .ok (.iinc 5 1, 3) := by decide +kernel
theorem d_X6_stepIsDone_73 : decode (yB m_X6_stepIsDone) 73 = .ok (.goto (-43), 3) := by decide +kernel
theorem d_X6_stepIsDone_76 : decode (yB m_X6_stepIsDone) 76 = .ok (.iinc 4 1, 3) := by decide +kernel
theorem d_X6_stepIsDone_79 : decode (yB m_X6_stepIsDone) 79 = .ok (.goto (-64), 3) := by decide +kernel
theorem d_X6_stepIsDone_82 : decode (yB m_X6_stepIsDone) 82 = .ok (.iload_n 2, 1) := by decide +kernel
theorem d_X6_stepIsDone_83 : decode (yB m_X6_stepIsDone) 83 = .ok (.iconst (-1), 1) := by decide +kernel
theorem d_X6_stepIsDone_84 : decode (yB m_X6_stepIsDone) 84 = .ok (.if_icmp .ne 5, 3) := by decide +kernel
theorem d_X6_stepIsDone_87 : decode (yB m_X6_stepIsDone) 87 = .ok (.iconst 0, 1) := by decide +kernel
theorem d_X6_stepIsDone_88 : decode (yB m_X6_stepIsDone) 88 = .ok (.ireturn, 1) := by decide +kernel
theorem d_X6_stepIsDone_89 : decode (yB m_X6_stepIsDone) 89 = .ok (.aload_n 0, 1) := by decide +kernel
theorem d_X6_stepIsDone_90 : decode (yB m_X6_stepIsDone) 90 = .ok (.getfield 9, 3) := by decide +kernel
theorem d_X6_stepIsDone_93 : decode (yB m_X6_stepIsDone) 93 = .ok (.iload_n 2, 1) := by decide +kernel
theorem d_X6_stepIsDone_94 : decode (yB m_X6_stepIsDone) 94 = .ok (.iload_n 3, 1) := by decide +kernel
theorem d_X6_stepIsDone_95 : decode (yB m_X6_stepIsDone) 95 = .ok (.invokevirtual 58, 3) := by decide +kernel
theorem d_X6_stepIsDone_98 : decode (yB m_X6_stepIsDone) 98 = .ok (.iconst 1, 1) := by decide +kernel
theorem d_X6_stepIsDone_99 : decode (yB m_X6_stepIsDone) 99 = .ok (.ireturn, 1) := by decide +kernel
def fn_X6_stepIsDone_82  (v2 : Int32) (v3 : Int32) (D : zD) : Option (Int32 × zD) := (if v2 = (-1 : Int32) then ((some ((0 : Int32), D))) else ((fn_X10_flip 86 v2 v3 D).bind fun D4 => (some ((1 : Int32), D4))))
def fn_X6_stepIsDone_30 (k15 : Int32 → Int32 → Int32 → Int32 → zD → Option (Int32 × zD)) : Nat → Int32 → Int32 → Int32 → Int32 → Int32 → zD → Option (Int32 × zD)
  | 0, _, _, _, _, _, _ => none
  | n + 1, v1, v2, v3, v4, v5, D => (if (gI D 86 5) ≤ v5 then ((k15 v1 v2 v3 (v4 + (1 : Int32)) D)) else ((fn_X10_pairsWith 86 v4 v5 D).bind fun x6 => (if v1 ≤ x6 then (((fn_X6_stepIsDone_30 k15 n) v1 v2 v3 v4 (v5 + (1 : Int32)) D)) else (((fn_X6_stepIsDone_30 k15 n) x6 v4 v5 v4 (v5 + (1 : Int32)) D)))))
def fn_X6_stepIsDone_15  : Nat → Int32 → Int32 → Int32 → Int32 → zD → Option (Int32 × zD)
  | 0, _, _, _, _, _ => none
  | n + 1, v1, v2, v3, v4, D => (if (gI D 86 4) ≤ v4 then ((fn_X6_stepIsDone_82 v2 v3 D)) else ((fn_X6_stepIsDone_30 (fn_X6_stepIsDone_15  n) zFU v1 v2 v3 v4 (0 : Int32) D)))
def fn_X6_stepIsDone (D : zD) : Option (Int32 × zD) := zlet (gI D 86 7) fun x1 => (fn_X6_stepIsDone_15 zFU x1 (-1 : Int32) (-1 : Int32) (0 : Int32) D)
theorem s_X6_stepIsDone_82 {X : zX} {Sh : zSh} {d : Nat} (hst : (zl X).stackTraces = false) (h0 : zSh0 Sh) (hd : 4 ≤ d)  (v2 : Int32) (v3 : Int32) (D : zD)  : Rn X m_X6_stepIsDone (d + 1) 82 [(0, .ref 85), (2, .int v2), (3, .int v3)] [] (Sh, D) ((oI Sh) (fn_X6_stepIsDone_82  v2 v3 D)) := by
  rw [fn_X6_stepIsDone_82]
  refine r_iload_n (pc := 82) 1 d_X6_stepIsDone_82 rfl rfl ?_
  refine r_iconst (pc := 83) (-1 : Int32) d_X6_stepIsDone_83 rfl ?_
  refine r_icmp_ne (f := (oI Sh)) (pc := 84) 89 d_X6_stepIsDone_84 (by decide) (fun c3 => ?_) (fun c3 => ?_)
  · refine r_aload_n (pc := 89) 0 d_X6_stepIsDone_89 rfl rfl ?_
    refine r_getR (pc := 90) g_X6_9 (K_85 h0) rfl (R_85_0 h0) d_X6_stepIsDone_90 ?_
    refine r_iload_n (pc := 93) 1 d_X6_stepIsDone_93 rfl rfl ?_
    refine r_iload_n (pc := 94) 2 d_X6_stepIsDone_94 rfl rfl ?_
    refine q_cV (f := (oI Sh)) (av := [.ref 86, .int v2, .int v3]) (st := []) (z_runV ck_X10_flip rfl ml_X6_58 ci_X10_flip cv_X10_flip (K_86 h0) (ci := 10) rfl rfl (Nat.le_of_ble_eq_true rfl) d_X6_stepIsDone_95) (s_X10_flip hst h0 (by omega) (I_86)) kp_I (fun D4 _ => ?_)
    refine r_iconst (pc := 98) (1 : Int32) d_X6_stepIsDone_98 rfl ?_
    exact r_zret (pc := 99) rfl (by decide) d_X6_stepIsDone_99
  · refine r_iconst (pc := 87) (0 : Int32) d_X6_stepIsDone_87 rfl ?_
    exact r_zret (pc := 88) rfl (by decide) d_X6_stepIsDone_88
theorem s_X6_stepIsDone_30 {X : zX} {Sh : zSh} {d : Nat} (hst : (zl X).stackTraces = false) (h0 : zSh0 Sh) (hd : 4 ≤ d) (k15 : Int32 → Int32 → Int32 → Int32 → zD → Option (Int32 × zD)) (hk15 : ∀ (v1 : Int32) (v2 : Int32) (v3 : Int32) (v4 : Int32) (D : zD) , Rn X m_X6_stepIsDone (d + 1) 15 [(0, .ref 85), (1, .int v1), (2, .int v2), (3, .int v3), (4, .int v4)] [] (Sh, D) ((oI Sh) (k15 v1 v2 v3 v4 D))) : ∀ (n : Nat) (v1 : Int32) (v2 : Int32) (v3 : Int32) (v4 : Int32) (v5 : Int32) (D : zD) , Rn X m_X6_stepIsDone (d + 1) 30 [(0, .ref 85), (1, .int v1), (2, .int v2), (3, .int v3), (4, .int v4), (5, .int v5)] [] (Sh, D) ((oI Sh) (fn_X6_stepIsDone_30 k15 n v1 v2 v3 v4 v5 D)) := by
  intro n
  induction n with
  | zero => intro v1 v2 v3 v4 v5 D; exact Rn_none rfl
  | succ n hk30 =>
    intro v1 v2 v3 v4 v5 D
    rw [fn_X6_stepIsDone_30]
    refine r_iload (pc := 30) 5 d_X6_stepIsDone_30 rfl ?_
    refine r_aload_n (pc := 32) 0 d_X6_stepIsDone_32 rfl rfl ?_
    refine r_getR (pc := 33) g_X6_9 (K_85 h0) rfl (R_85_0 h0) d_X6_stepIsDone_33 ?_
    refine q_gIn (pc := 36) g_X6_48 (K_86 h0) rfl d_X6_stepIsDone_36 ?_
    refine r_icmp_ge (f := (oI Sh)) (pc := 39) 76 d_X6_stepIsDone_39 (by decide) (fun c5 => ?_) (fun c5 => ?_)
    · refine r_iinc (pc := 76) ((v4 + (1 : Int32))) 4 (ls' := [(4, .int (v4 + (1 : Int32))), (0, .ref 85), (1, .int v1), (2, .int v2), (3, .int v3), (5, .int v5)]) d_X6_stepIsDone_76 rfl rfl (Nat.le_of_ble_eq_true rfl) rfl ?_
      refine r_goto (pc := 79) 15 d_X6_stepIsDone_79 (by decide) ?_
      refine r_pick [1, 2, 3, 4, 0] (ls' := [(0, .ref 85), (1, .int v1), (2, .int v2), (3, .int v3), (4, .int (v4 + (1 : Int32)))]) rfl ?_
      exact hk15 v1 v2 v3 (v4 + (1 : Int32)) D 
    · refine r_aload_n (pc := 42) 0 d_X6_stepIsDone_42 rfl rfl ?_
      refine r_getR (pc := 43) g_X6_9 (K_85 h0) rfl (R_85_0 h0) d_X6_stepIsDone_43 ?_
      refine r_iload (pc := 46) 4 d_X6_stepIsDone_46 rfl ?_
      refine r_iload (pc := 48) 5 d_X6_stepIsDone_48 rfl ?_
      refine q_cP (f := (oI Sh)) (av := [.ref 86, .int v4, .int v5]) (st := []) (z_runV ck_X10_pairsWith rfl ml_X6_70 ci_X10_pairsWith cv_X10_pairsWith (K_86 h0) (ci := 10) rfl rfl (Nat.le_of_ble_eq_true rfl) d_X6_stepIsDone_50) (s_X10_pairsWith hst h0 (by omega) (I_86)) kp_I (fun x6 _ => ?_)
      refine r_istore (pc := 53) (ls' := [(6, .int x6), (0, .ref 85), (1, .int v1), (2, .int v2), (3, .int v3), (4, .int v4), (5, .int v5)]) d_X6_stepIsDone_53 (Nat.le_of_ble_eq_true rfl) rfl ?_
      refine r_iload (pc := 55) 0 d_X6_stepIsDone_55 rfl ?_
      refine r_iload_n (pc := 57) 2 d_X6_stepIsDone_57 rfl rfl ?_
      refine r_icmp_ge (f := (oI Sh)) (pc := 58) 70 d_X6_stepIsDone_58 (by decide) (fun c7 => ?_) (fun c7 => ?_)
      · refine r_iinc (pc := 70) ((v5 + (1 : Int32))) 6 (ls' := [(5, .int (v5 + (1 : Int32))), (6, .int x6), (0, .ref 85), (1, .int v1), (2, .int v2), (3, .int v3), (4, .int v4)]) d_X6_stepIsDone_70 rfl rfl (Nat.le_of_ble_eq_true rfl) rfl ?_
        refine r_goto (pc := 73) 30 d_X6_stepIsDone_73 (by decide) ?_
        refine r_pick [2, 3, 4, 5, 6, 0] (ls' := [(0, .ref 85), (1, .int v1), (2, .int v2), (3, .int v3), (4, .int v4), (5, .int (v5 + (1 : Int32)))]) rfl ?_
        exact hk30 v1 v2 v3 v4 (v5 + (1 : Int32)) D 
      · refine r_iload (pc := 61) 0 d_X6_stepIsDone_61 rfl ?_
        refine r_istore_n (pc := 63) (ls' := [(1, .int x6), (6, .int x6), (0, .ref 85), (2, .int v2), (3, .int v3), (4, .int v4), (5, .int v5)]) d_X6_stepIsDone_63 rfl (Nat.le_of_ble_eq_true rfl) rfl ?_
        refine r_iload (pc := 64) 5 d_X6_stepIsDone_64 rfl ?_
        refine r_istore_n (pc := 66) (ls' := [(2, .int v4), (1, .int x6), (6, .int x6), (0, .ref 85), (3, .int v3), (4, .int v4), (5, .int v5)]) d_X6_stepIsDone_66 rfl (Nat.le_of_ble_eq_true rfl) rfl ?_
        refine r_iload (pc := 67) 6 d_X6_stepIsDone_67 rfl ?_
        refine r_istore_n (pc := 69) (ls' := [(3, .int v5), (2, .int v4), (1, .int x6), (6, .int x6), (0, .ref 85), (4, .int v4), (5, .int v5)]) d_X6_stepIsDone_69 rfl (Nat.le_of_ble_eq_true rfl) rfl ?_
        refine r_iinc (pc := 70) ((v5 + (1 : Int32))) 6 (ls' := [(5, .int (v5 + (1 : Int32))), (3, .int v5), (2, .int v4), (1, .int x6), (6, .int x6), (0, .ref 85), (4, .int v4)]) d_X6_stepIsDone_70 rfl rfl (Nat.le_of_ble_eq_true rfl) rfl ?_
        refine r_goto (pc := 73) 30 d_X6_stepIsDone_73 (by decide) ?_
        refine r_pick [5, 3, 2, 1, 6, 0] (ls' := [(0, .ref 85), (1, .int x6), (2, .int v4), (3, .int v5), (4, .int v4), (5, .int (v5 + (1 : Int32)))]) rfl ?_
        exact hk30 x6 v4 v5 v4 (v5 + (1 : Int32)) D 
theorem s_X6_stepIsDone_15 {X : zX} {Sh : zSh} {d : Nat} (hst : (zl X).stackTraces = false) (h0 : zSh0 Sh) (hd : 4 ≤ d)  : ∀ (n : Nat) (v1 : Int32) (v2 : Int32) (v3 : Int32) (v4 : Int32) (D : zD) , Rn X m_X6_stepIsDone (d + 1) 15 [(0, .ref 85), (1, .int v1), (2, .int v2), (3, .int v3), (4, .int v4)] [] (Sh, D) ((oI Sh) (fn_X6_stepIsDone_15  n v1 v2 v3 v4 D)) := by
  intro n
  induction n with
  | zero => intro v1 v2 v3 v4 D; exact Rn_none rfl
  | succ n hk15 =>
    intro v1 v2 v3 v4 D
    rw [fn_X6_stepIsDone_15]
    refine r_iload (pc := 15) 4 d_X6_stepIsDone_15 rfl ?_
    refine r_aload_n (pc := 17) 0 d_X6_stepIsDone_17 rfl rfl ?_
    refine r_getR (pc := 18) g_X6_9 (K_85 h0) rfl (R_85_0 h0) d_X6_stepIsDone_18 ?_
    refine q_gIn (pc := 21) g_X6_38 (K_86 h0) rfl d_X6_stepIsDone_21 ?_
    refine r_icmp_ge (f := (oI Sh)) (pc := 24) 82 d_X6_stepIsDone_24 (by decide) (fun c2 => ?_) (fun c2 => ?_)
    · refine r_pick [0, 2, 3] (ls' := [(0, .ref 85), (2, .int v2), (3, .int v3)]) rfl ?_
      exact s_X6_stepIsDone_82 hst h0 hd v2 v3 D
    · refine r_iconst (pc := 27) (0 : Int32) d_X6_stepIsDone_27 rfl ?_
      refine r_istore (pc := 28) (ls' := [(5, .int (0 : Int32)), (0, .ref 85), (1, .int v1), (2, .int v2), (3, .int v3), (4, .int v4)]) d_X6_stepIsDone_28 (Nat.le_of_ble_eq_true rfl) rfl ?_
      refine r_pick [1, 2, 3, 4, 5, 0] (ls' := [(0, .ref 85), (1, .int v1), (2, .int v2), (3, .int v3), (4, .int v4), (5, .int (0 : Int32))]) rfl ?_
      exact s_X6_stepIsDone_30 hst h0 hd (fn_X6_stepIsDone_15  n) hk15 zFU  v1 v2 v3 v4 (0 : Int32) D
theorem s_X6_stepIsDone {X : zX} {Sh : zSh} {d : Nat} (hst : (zl X).stackTraces = false) (h0 : zSh0 Sh) (hd : 5 ≤ d)  {D : zD} : Sd X m_X6_stepIsDone d [.ref 85] (Sh, D) ((oI Sh) (fn_X6_stepIsDone D)) := by
  obtain ⟨d, rfl⟩ : ∃ e, d = e + 1 := ⟨d - 1, by omega⟩
  replace hd : 4 ≤ d := by omega
  refine z_body ck_X6_stepIsDone rfl (Nat.le_of_ble_eq_true rfl) rfl hst ?_
  rw [fn_X6_stepIsDone]
  show Rn X m_X6_stepIsDone (d + 1) 0 [(0, .ref 85)] [] (Sh, D) _
  refine r_aload_n (pc := 0) 0 d_X6_stepIsDone_0 rfl rfl ?_
  refine r_getR (pc := 1) g_X6_9 (K_85 h0) rfl (R_85_0 h0) d_X6_stepIsDone_1 ?_
  refine q_gIn (pc := 4) g_X6_25 (K_86 h0) rfl d_X6_stepIsDone_4 ?_
  refine r_leti (f := (oI Sh)) (fun x1 => ?_)
  refine r_istore_n (pc := 7) (ls' := [(1, .int x1), (0, .ref 85)]) d_X6_stepIsDone_7 rfl (Nat.le_of_ble_eq_true rfl) rfl ?_
  refine r_iconst (pc := 8) (-1 : Int32) d_X6_stepIsDone_8 rfl ?_
  refine r_istore_n (pc := 9) (ls' := [(2, .int (-1 : Int32)), (1, .int x1), (0, .ref 85)]) d_X6_stepIsDone_9 rfl (Nat.le_of_ble_eq_true rfl) rfl ?_
  refine r_iconst (pc := 10) (-1 : Int32) d_X6_stepIsDone_10 rfl ?_
  refine r_istore_n (pc := 11) (ls' := [(3, .int (-1 : Int32)), (2, .int (-1 : Int32)), (1, .int x1), (0, .ref 85)]) d_X6_stepIsDone_11 rfl (Nat.le_of_ble_eq_true rfl) rfl ?_
  refine r_iconst (pc := 12) (0 : Int32) d_X6_stepIsDone_12 rfl ?_
  refine r_istore (pc := 13) (ls' := [(4, .int (0 : Int32)), (3, .int (-1 : Int32)), (2, .int (-1 : Int32)), (1, .int x1), (0, .ref 85)]) d_X6_stepIsDone_13 (Nat.le_of_ble_eq_true rfl) rfl ?_
  refine r_pick [4, 3, 2, 1, 0] (ls' := [(0, .ref 85), (1, .int x1), (2, .int (-1 : Int32)), (3, .int (-1 : Int32)), (4, .int (0 : Int32))]) rfl ?_
  exact s_X6_stepIsDone_15 hst h0 hd zFU  x1 (-1 : Int32) (-1 : Int32) (0 : Int32) D
/-! CoveredSigns$Repair.walk -/
theorem d_X6_walk_0 : decode (yB m_X6_walk) 0 = .ok (.aload_n 0, 1) := by decide +kernel
theorem d_X6_walk_1 : decode (yB m_X6_walk) 1 = .ok (.getfield 9, 3) := by decide +kernel
theorem d_X6_walk_4 : decode (yB m_X6_walk) 4 = .ok (.ifnonnull 5, 3) := by decide +kernel
theorem d_X6_walk_7 : decode (yB m_X6_walk) 7 = .ok (.iconst 0, 1) := by decide +kernel
theorem d_X6_walk_8 : decode (yB m_X6_walk) 8 = .ok (.ireturn, 1) := by decide +kernel
theorem d_X6_walk_9 : decode (yB m_X6_walk) 9 = .ok (.aload_n 0, 1) := by decide +kernel
theorem d_X6_walk_10 : decode (yB m_X6_walk) 10 = .ok (.getfield 9, 3) := by decide +kernel
theorem d_X6_walk_13 : decode (yB m_X6_walk) 13 = .ok (.aload_n 1, 1) := by decide +kernel
theorem d_X6_walk_14 : decode (yB m_X6_walk) 14 = .ok (.invokevirtual 55, 3) := by decide +kernel
theorem d_X6_walk_17 : decode (yB m_X6_walk) 17 = .ok (.iconst 0, 1) := by decide +kernel
theorem d_X6_walk_18 : decode (yB m_X6_walk) 18 = .ok (.istore_n 2, 1) := by decide +kernel
theorem d_X6_walk_19 : decode (yB m_X6_walk) 19 = .ok (.iload_n 2, 1) := by decide +kernel
theorem d_X6_walk_20 : decode (yB m_X6_walk) 20 = .ok (.bipush 30, 2) := by decide +kernel
theorem d_X6_walk_22 : decode (yB m_X6_walk) 22 = .ok (.if_icmp .ge 26, 3) := by decide +kernel
theorem d_X6_walk_25 : decode (yB m_X6_walk) 25 = .ok (.aload_n 0, 1) := by decide +kernel
theorem d_X6_walk_26 : decode (yB m_X6_walk) 26 = .ok (.getfield 9, 3) := by decide +kernel
theorem d_X6_walk_29 : decode (yB m_X6_walk) 29 = .ok (.getfield 25, 3) := by decide +kernel
theorem d_X6_walk_32 : decode (yB m_X6_walk) 32 = .ok (.ifCond .le 16, 3) := by decide +kernel
theorem d_X6_walk_35 : decode (yB m_X6_walk) 35 = .ok (.aload_n 0, 1) := by decide +kernel
theorem d_X6_walk_36 : decode (yB m_X6_walk) 36 = .ok (.invokevirtual 66, 3) := by decide +kernel
theorem d_X6_walk_39 : decode (yB m_X6_walk) 39 = .ok (.ifCond .eq 9, 3) := by decide +kernel
theorem d_X6_walk_42 : decode (yB m_X6_walk) 42 = .ok (.iinc 2 1, 3) := by decide +kernel
theorem d_X6_walk_45 : decode (yB m_X6_walk) 45 = .ok (.goto (-26), 3) := by decide +kernel
theorem d_X6_walk_48 : decode (yB m_X6_walk) 48 = .ok (.iload_n 2, 1) := by decide +kernel
theorem d_X6_walk_49 : decode (yB m_X6_walk) 49 = .ok (.ireturn, 1) := by decide +kernel
def fn_X6_walk_19 (a1 : Nat) : Nat → Int32 → zD → Option (Int32 × zD)
  | 0, _, _ => none
  | n + 1, v2, D => (if (30 : Int32) ≤ v2 then ((some (v2, D))) else ((if (gI D 86 7) ≤ 0 then ((some (v2, D))) else ((fn_X6_stepIsDone D).bind fun q4 => (if q4.1 = 0 then ((some (v2, q4.2))) else (((fn_X6_walk_19 a1 n) (v2 + (1 : Int32)) q4.2)))))))
def fn_X6_walk (a1 : Nat) (D : zD) : Option (Int32 × zD) := (fn_X10_copyFrom 86 a1 D).bind fun D1 => (fn_X6_walk_19 a1 zFU (0 : Int32) D1)
theorem s_X6_walk_19 {X : zX} {Sh : zSh} {d : Nat} (hst : (zl X).stackTraces = false) (h0 : zSh0 Sh) (hd : 5 ≤ d) {a1 : Nat} (h_a1 : a1 ∈ zI_10) : ∀ (n : Nat) (v2 : Int32) (D : zD) , Rn X m_X6_walk (d + 1) 19 [(0, .ref 85), (2, .int v2)] [] (Sh, D) ((oI Sh) (fn_X6_walk_19 a1 n v2 D)) := by
  intro n
  induction n with
  | zero => intro v2 D; exact Rn_none rfl
  | succ n hk19 =>
    intro v2 D
    rw [fn_X6_walk_19]
    refine r_iload_n (pc := 19) 1 d_X6_walk_19 rfl rfl ?_
    refine r_bipush (pc := 20) (30 : Int32) d_X6_walk_20 rfl ?_
    refine r_icmp_ge (f := (oI Sh)) (pc := 22) 48 d_X6_walk_22 (by decide) (fun c2 => ?_) (fun c2 => ?_)
    · refine r_iload_n (pc := 48) 1 d_X6_walk_48 rfl rfl ?_
      exact r_iret (pc := 49) rfl d_X6_walk_49
    · refine r_aload_n (pc := 25) 0 d_X6_walk_25 rfl rfl ?_
      refine r_getR (pc := 26) g_X6_9 (K_85 h0) rfl (R_85_0 h0) d_X6_walk_26 ?_
      refine q_gIn (pc := 29) g_X6_25 (K_86 h0) rfl d_X6_walk_29 ?_
      refine r_if_le (f := (oI Sh)) (pc := 32) 48 d_X6_walk_32 (by decide) (fun c3 => ?_) (fun c3 => ?_)
      · refine r_iload_n (pc := 48) 1 d_X6_walk_48 rfl rfl ?_
        exact r_iret (pc := 49) rfl d_X6_walk_49
      · refine r_aload_n (pc := 35) 0 d_X6_walk_35 rfl rfl ?_
        refine q_cI (f := (oI Sh)) (av := [.ref 85]) (st := []) (z_runV ck_X6_stepIsDone rfl ml_X6_66 ci_X6_stepIsDone cv_X6_stepIsDone (K_85 h0) (ci := 6) rfl rfl (Nat.le_of_ble_eq_true rfl) d_X6_walk_36) (s_X6_stepIsDone hst h0 (by omega)) kp_I (fun q4 _ => ?_)
        refine r_if_eq (f := (oI Sh)) (pc := 39) 48 d_X6_walk_39 (by decide) (fun c5 => ?_) (fun c5 => ?_)
        · refine r_iload_n (pc := 48) 1 d_X6_walk_48 rfl rfl ?_
          exact r_iret (pc := 49) rfl d_X6_walk_49
        · refine r_iinc (pc := 42) ((v2 + (1 : Int32))) 1 (ls' := [(2, .int (v2 + (1 : Int32))), (0, .ref 85)]) d_X6_walk_42 rfl rfl (Nat.le_of_ble_eq_true rfl) rfl ?_
          refine r_goto (pc := 45) 19 d_X6_walk_45 (by decide) ?_
          refine r_pick [1, 0] (ls' := [(0, .ref 85), (2, .int (v2 + (1 : Int32)))]) rfl ?_
          exact hk19 (v2 + (1 : Int32)) q4.2 
theorem s_X6_walk {X : zX} {Sh : zSh} {d : Nat} (hst : (zl X).stackTraces = false) (h0 : zSh0 Sh) (hd : 6 ≤ d) {a1 : Nat} (h_a1 : a1 ∈ zI_10) {D : zD} : Sd X m_X6_walk d [.ref 85, .ref a1] (Sh, D) ((oI Sh) (fn_X6_walk a1 D)) := by
  obtain ⟨d, rfl⟩ : ∃ e, d = e + 1 := ⟨d - 1, by omega⟩
  replace hd : 5 ≤ d := by omega
  refine z_body ck_X6_walk rfl (Nat.le_of_ble_eq_true rfl) rfl hst ?_
  rw [fn_X6_walk]
  show Rn X m_X6_walk (d + 1) 0 [(0, .ref 85), (1, .ref a1)] [] (Sh, D) _
  refine r_aload_n (pc := 0) 0 d_X6_walk_0 rfl rfl ?_
  refine r_getR (pc := 1) g_X6_9 (K_85 h0) rfl (R_85_0 h0) d_X6_walk_1 ?_
  refine r_nonnull (pc := 4) 9 d_X6_walk_4 (by decide) ?_
  refine r_aload_n (pc := 9) 0 d_X6_walk_9 rfl rfl ?_
  refine r_getR (pc := 10) g_X6_9 (K_85 h0) rfl (R_85_0 h0) d_X6_walk_10 ?_
  refine r_aload_n (pc := 13) 1 d_X6_walk_13 rfl rfl ?_
  refine q_cV (f := (oI Sh)) (av := [.ref 86, .ref a1]) (st := []) (z_runV ck_X10_copyFrom rfl ml_X6_55 ci_X10_copyFrom cv_X10_copyFrom (K_86 h0) (ci := 10) rfl rfl (Nat.le_of_ble_eq_true rfl) d_X6_walk_14) (s_X10_copyFrom hst h0 (by omega) (I_86) h_a1) kp_I (fun D1 _ => ?_)
  refine r_iconst (pc := 17) (0 : Int32) d_X6_walk_17 rfl ?_
  refine r_istore_n (pc := 18) (ls' := [(2, .int (0 : Int32)), (0, .ref 85), (1, .ref a1)]) d_X6_walk_18 rfl (Nat.le_of_ble_eq_true rfl) rfl ?_
  refine r_pick [1, 0] (ls' := [(0, .ref 85), (2, .int (0 : Int32))]) rfl ?_
  exact s_X6_walk_19 hst h0 hd h_a1 zFU  (0 : Int32) D1
/-! CoveredSigns$Repair.pairsLeft -/
theorem d_X6_pairsLeft_0 : decode (yB m_X6_pairsLeft) 0 = .ok (.aload_n 0, 1) := by decide +kernel
theorem d_X6_pairsLeft_1 : decode (yB m_X6_pairsLeft) 1 = .ok (.getfield 9, 3) := by decide +kernel
theorem d_X6_pairsLeft_4 : decode (yB m_X6_pairsLeft) 4 = .ok (.ifnonnull 7, 3) := by decide +kernel
theorem d_X6_pairsLeft_7 : decode (yB m_X6_pairsLeft) 7 = .ok (.iconst 0, 1) := by decide +kernel
theorem d_X6_pairsLeft_8 : decode (yB m_X6_pairsLeft) 8 = .ok (.goto 10, 3) := by decide +kernel
theorem d_X6_pairsLeft_11 : decode (yB m_X6_pairsLeft) 11 = .ok (.aload_n 0, 1) := by decide +kernel
theorem d_X6_pairsLeft_12 : decode (yB m_X6_pairsLeft) 12 = .ok (.getfield 9, 3) := by decide +kernel
theorem d_X6_pairsLeft_15 : decode (yB m_X6_pairsLeft) 15 = .ok (.getfield 25, 3) := by decide +kernel
theorem d_X6_pairsLeft_18 : decode (yB m_X6_pairsLeft) 18 = .ok (.ireturn, 1) := by decide +kernel
def fn_X6_pairsLeft (D : zD) : Option Int32 := (some (gI D 86 7))
theorem s_X6_pairsLeft {X : zX} {Sh : zSh} {d : Nat} (hst : (zl X).stackTraces = false) (h0 : zSh0 Sh) (hd : 1 ≤ d)  {D : zD} : Sd X m_X6_pairsLeft d [.ref 85] (Sh, D) ((oP Sh D) (fn_X6_pairsLeft D)) := by
  obtain ⟨d, rfl⟩ : ∃ e, d = e + 1 := ⟨d - 1, by omega⟩
  replace hd : 0 ≤ d := by omega
  refine z_body ck_X6_pairsLeft rfl (Nat.le_of_ble_eq_true rfl) rfl hst ?_
  rw [fn_X6_pairsLeft]
  show Rn X m_X6_pairsLeft (d + 1) 0 [(0, .ref 85)] [] (Sh, D) _
  refine r_aload_n (pc := 0) 0 d_X6_pairsLeft_0 rfl rfl ?_
  refine r_getR (pc := 1) g_X6_9 (K_85 h0) rfl (R_85_0 h0) d_X6_pairsLeft_1 ?_
  refine r_nonnull (pc := 4) 11 d_X6_pairsLeft_4 (by decide) ?_
  refine r_aload_n (pc := 11) 0 d_X6_pairsLeft_11 rfl rfl ?_
  refine r_getR (pc := 12) g_X6_9 (K_85 h0) rfl (R_85_0 h0) d_X6_pairsLeft_12 ?_
  refine q_gIn (pc := 15) g_X6_25 (K_86 h0) rfl d_X6_pairsLeft_15 ?_
  exact r_iret (pc := 18) rfl d_X6_pairsLeft_18

