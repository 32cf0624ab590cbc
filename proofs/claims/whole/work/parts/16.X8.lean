/-! CoveredSigns$Scan.begin -/
theorem d_X8_begin_0 : decode (yB m_X8_begin) 0 = .ok (.aload_n 0, 1) := by decide +kernel
theorem d_X8_begin_1 : decode (yB m_X8_begin) 1 = .ok (.iconst 0, 1) := by decide +kernel
theorem d_X8_begin_2 : decode (yB m_X8_begin) 2 = .ok (.iload_n 1, 1) := by decide +kernel
theorem d_X8_begin_3 : decode (yB m_X8_begin) 3 = .ok (.aload_n 0, 1) := by decide +kernel
theorem d_X8_begin_4 : decode (yB m_X8_begin) 4 = .ok (.getfield 15, 3) := by decide +kernel
theorem d_X8_begin_7 : decode (yB m_X8_begin) 7 = .ok (.arraylength, 1) := by decide +kernel
theorem d_X8_begin_8 : decode (yB m_X8_begin) 8 = .ok (.invokestatic 19, 3) := by decide +kernel
theorem d_X8_begin_11 : decode (yB m_X8_begin) 11 = .ok (.invokestatic 25, 3) := by decide +kernel
theorem d_X8_begin_14 : decode (yB m_X8_begin) 14 = .ok (.putfield 28, 3) := by decide +kernel
theorem d_X8_begin_17 : decode (yB m_X8_begin) 17 = .ok (.aload_n 0, 1) := by decide +kernel
theorem d_X8_begin_18 : decode (yB m_X8_begin) 18 = .ok (.iconst 0, 1) := by decide +kernel
theorem d_X8_begin_19 : decode (yB m_X8_begin) 19 = .ok (.putfield 31, 3) := by decide +kernel
theorem d_X8_begin_22 : decode (yB m_X8_begin) 22 = .ok (.aload_n 0, 1) := by decide +kernel
theorem d_X8_begin_23 : decode (yB m_X8_begin) 23 = .ok (.iconst 0, 1) := by decide +kernel
theorem d_X8_begin_24 : decode (yB m_X8_begin) 24 = .ok (.putfield 34, 3) := by decide +kernel
theorem d_X8_begin_27 : decode (yB m_X8_begin) 27 = .ok (.aload_n 0, 1) := by decide +kernel
theorem d_X8_begin_28 : decode (yB m_X8_begin) 28 = .ok (.iconst (-1), 1) := by decide +kernel
theorem d_X8_begin_29 : decode (yB m_X8_begin) 29 = .ok (.putfield 9, 3) := by decide +kernel
theorem d_X8_begin_32 : decode (yB m_X8_begin) 32 = .ok (.return_, 1) := by decide +kernel
def fn_X8_begin (v1 : Int32) (D : zD) : Option zD := zlet (sI D 2 1 (zmx (0 : Int32) (zmn v1 (Int32.ofNat 500)))) fun D1 => zlet (sI D1 2 2 (0 : Int32)) fun D2 => zlet (sI D2 2 3 (0 : Int32)) fun D3 => zlet (sI D3 2 4 (-1 : Int32)) fun D4 => (some D4)
theorem s_X8_begin {X : zX} {Sh : zSh} {d : Nat} (hst : (zl X).stackTraces = false) (h0 : zSh0 Sh) (hd : 2 ≤ d) {v1 : Int32} {D : zD} : Sd X m_X8_begin d [.ref 2, .int v1] (Sh, D) ((oV Sh) (fn_X8_begin v1 D)) := by
  obtain ⟨d, rfl⟩ : ∃ e, d = e + 1 := ⟨d - 1, by omega⟩
  replace hd : 1 ≤ d := by omega
  refine z_body ck_X8_begin rfl (Nat.le_of_ble_eq_true rfl) rfl hst ?_
  rw [fn_X8_begin]
  show Rn X m_X8_begin (d + 1) 0 [(0, .ref 2), (1, .int v1)] [] (Sh, D) _
  refine r_aload_n (pc := 0) 0 d_X8_begin_0 rfl rfl ?_
  refine r_iconst (pc := 1) (0 : Int32) d_X8_begin_1 rfl ?_
  refine r_iload_n (pc := 2) 1 d_X8_begin_2 rfl rfl ?_
  refine r_aload_n (pc := 3) 0 d_X8_begin_3 rfl rfl ?_
  refine r_getR (pc := 4) g_X8_15 (K_2 h0) rfl (R_2_0 h0) d_X8_begin_4 ?_
  refine r_alen (pc := 7) (K_1 h0) (by decide) d_X8_begin_7 ?_
  refine r_mmin (pc := 8) ml_X8_19 (by omega) (Nat.le_of_ble_eq_true rfl) d_X8_begin_8 ?_
  refine r_mmax (pc := 11) ml_X8_25 (by omega) (Nat.le_of_ble_eq_true rfl) d_X8_begin_11 ?_
  refine r_putI (pc := 14) p_X8_28 (K_2 h0) rfl (Or.inl rfl) d_X8_begin_14 ?_
  refine r_letD (f := (oV Sh)) (fun D1 => ?_)
  refine r_aload_n (pc := 17) 0 d_X8_begin_17 rfl rfl ?_
  refine r_iconst (pc := 18) (0 : Int32) d_X8_begin_18 rfl ?_
  refine r_putI (pc := 19) p_X8_31 (K_2 h0) rfl (Or.inl rfl) d_X8_begin_19 ?_
  refine r_letD (f := (oV Sh)) (fun D2 => ?_)
  refine r_aload_n (pc := 22) 0 d_X8_begin_22 rfl rfl ?_
  refine r_iconst (pc := 23) (0 : Int32) d_X8_begin_23 rfl ?_
  refine r_putI (pc := 24) p_X8_34 (K_2 h0) rfl (Or.inl rfl) d_X8_begin_24 ?_
  refine r_letD (f := (oV Sh)) (fun D3 => ?_)
  refine r_aload_n (pc := 27) 0 d_X8_begin_27 rfl rfl ?_
  refine r_iconst (pc := 28) (-1 : Int32) d_X8_begin_28 rfl ?_
  refine r_putI (pc := 29) p_X8_9 (K_2 h0) rfl (Or.inl rfl) d_X8_begin_29 ?_
  refine r_letD (f := (oV Sh)) (fun D4 => ?_)
  exact r_vret (pc := 32) rfl d_X8_begin_32
/-! CoveredSigns$Scan.kind -/
theorem d_X8_kind_0 : decode (yB m_X8_kind) 0 = .ok (.aload_n 0, 1) := by decide +kernel
theorem d_X8_kind_1 : decode (yB m_X8_kind) 1 = .ok (.getfield 34, 3) := by decide +kernel
theorem d_X8_kind_4 : decode (yB m_X8_kind) 4 = .ok (.ireturn, 1) := by decide +kernel
def fn_X8_kind (D : zD) : Option Int32 := (some (gI D 2 3))
theorem s_X8_kind {X : zX} {Sh : zSh} {d : Nat} (hst : (zl X).stackTraces = false) (h0 : zSh0 Sh) (hd : 1 ≤ d)  {D : zD} : Sd X m_X8_kind d [.ref 2] (Sh, D) ((oP Sh D) (fn_X8_kind D)) := by
  obtain ⟨d, rfl⟩ : ∃ e, d = e + 1 := ⟨d - 1, by omega⟩
  replace hd : 0 ≤ d := by omega
  refine z_body ck_X8_kind rfl (Nat.le_of_ble_eq_true rfl) rfl hst ?_
  rw [fn_X8_kind]
  show Rn X m_X8_kind (d + 1) 0 [(0, .ref 2)] [] (Sh, D) _
  refine r_aload_n (pc := 0) 0 d_X8_kind_0 rfl rfl ?_
  refine q_gI (pc := 1) g_X8_34 (K_2 h0) rfl d_X8_kind_1 ?_
  exact r_iret (pc := 4) rfl d_X8_kind_4
/-! CoveredSigns$Scan.place -/
theorem d_X8_place_0 : decode (yB m_X8_place) 0 = .ok (.aload_n 0, 1) := by decide +kernel
theorem d_X8_place_1 : decode (yB m_X8_place) 1 = .ok (.getfield 9, 3) := by decide +kernel
theorem d_X8_place_4 : decode (yB m_X8_place) 4 = .ok (.ireturn, 1) := by decide +kernel
def fn_X8_place (D : zD) : Option Int32 := (some (gI D 2 4))
theorem s_X8_place {X : zX} {Sh : zSh} {d : Nat} (hst : (zl X).stackTraces = false) (h0 : zSh0 Sh) (hd : 1 ≤ d)  {D : zD} : Sd X m_X8_place d [.ref 2] (Sh, D) ((oP Sh D) (fn_X8_place D)) := by
  obtain ⟨d, rfl⟩ : ∃ e, d = e + 1 := ⟨d - 1, by omega⟩
  replace hd : 0 ≤ d := by omega
  refine z_body ck_X8_place rfl (Nat.le_of_ble_eq_true rfl) rfl hst ?_
  rw [fn_X8_place]
  show Rn X m_X8_place (d + 1) 0 [(0, .ref 2)] [] (Sh, D) _
  refine r_aload_n (pc := 0) 0 d_X8_place_0 rfl rfl ?_
  refine q_gI (pc := 1) g_X8_9 (K_2 h0) rfl d_X8_place_1 ?_
  exact r_iret (pc := 4) rfl d_X8_place_4
/-! CoveredSigns$Scan.length -/
theorem d_X8_length_0 : decode (yB m_X8_length) 0 = .ok (.aload_n 0, 1) := by decide +kernel
theorem d_X8_length_1 : decode (yB m_X8_length) 1 = .ok (.getfield 28, 3) := by decide +kernel
theorem d_X8_length_4 : decode (yB m_X8_length) 4 = .ok (.ireturn, 1) := by decide +kernel
def fn_X8_length (D : zD) : Option Int32 := (some (gI D 2 1))
theorem s_X8_length {X : zX} {Sh : zSh} {d : Nat} (hst : (zl X).stackTraces = false) (h0 : zSh0 Sh) (hd : 1 ≤ d)  {D : zD} : Sd X m_X8_length d [.ref 2] (Sh, D) ((oP Sh D) (fn_X8_length D)) := by
  obtain ⟨d, rfl⟩ : ∃ e, d = e + 1 := ⟨d - 1, by omega⟩
  replace hd : 0 ≤ d := by omega
  refine z_body ck_X8_length rfl (Nat.le_of_ble_eq_true rfl) rfl hst ?_
  rw [fn_X8_length]
  show Rn X m_X8_length (d + 1) 0 [(0, .ref 2)] [] (Sh, D) _
  refine r_aload_n (pc := 0) 0 d_X8_length_0 rfl rfl ?_
  refine q_gI (pc := 1) g_X8_28 (K_2 h0) rfl d_X8_length_1 ?_
  exact r_iret (pc := 4) rfl d_X8_length_4
/-! CoveredSigns$Scan.blame -/
theorem d_X8_blame_0 : decode (yB m_X8_blame) 0 = .ok (.aload_n 0, 1) := by decide +kernel
theorem d_X8_blame_1 : decode (yB m_X8_blame) 1 = .ok (.getfield 34, 3) := by decide +kernel
theorem d_X8_blame_4 : decode (yB m_X8_blame) 4 = .ok (.ifCond .ne 13, 3) := by decide +kernel
theorem d_X8_blame_7 : decode (yB m_X8_blame) 7 = .ok (.aload_n 0, 1) := by decide +kernel
theorem d_X8_blame_8 : decode (yB m_X8_blame) 8 = .ok (.iload_n 1, 1) := by decide +kernel
theorem d_X8_blame_9 : decode (yB m_X8_blame) 9 = .ok (.putfield 34, 3) := by decide +kernel
theorem d_X8_blame_12 : decode (yB m_X8_blame) 12 = .ok (.aload_n 0, 1) := by decide +kernel
theorem d_X8_blame_13 : decode (yB m_X8_blame) 13 = .ok (.iload_n 2, 1) := by decide +kernel
theorem d_X8_blame_14 : decode (yB m_X8_blame) 14 = .ok (.putfield 9, 3) := by decide +kernel
theorem d_X8_blame_17 : decode (yB m_X8_blame) 17 = .ok (.iconst 0, 1) := by decide +kernel
theorem d_X8_blame_18 : decode (yB m_X8_blame) 18 = .ok (.ireturn, 1) := by decide +kernel
def fn_X8_blame (v1 : Int32) (v2 : Int32) (D : zD) : Option (Int32 × zD) := (if (gI D 2 3) = 0 then (zlet (sI D 2 3 v1) fun D2 => zlet (sI D2 2 4 v2) fun D3 => (some ((0 : Int32), D3))) else ((some ((0 : Int32), D))))
theorem s_X8_blame {X : zX} {Sh : zSh} {d : Nat} (hst : (zl X).stackTraces = false) (h0 : zSh0 Sh) (hd : 1 ≤ d) {v1 : Int32} {v2 : Int32} {D : zD} : Sd X m_X8_blame d [.ref 2, .int v1, .int v2] (Sh, D) ((oI Sh) (fn_X8_blame v1 v2 D)) := by
  obtain ⟨d, rfl⟩ : ∃ e, d = e + 1 := ⟨d - 1, by omega⟩
  replace hd : 0 ≤ d := by omega
  refine z_body ck_X8_blame rfl (Nat.le_of_ble_eq_true rfl) rfl hst ?_
  rw [fn_X8_blame]
  show Rn X m_X8_blame (d + 1) 0 [(0, .ref 2), (1, .int v1), (2, .int v2)] [] (Sh, D) _
  refine r_aload_n (pc := 0) 0 d_X8_blame_0 rfl rfl ?_
  refine q_gI (pc := 1) g_X8_34 (K_2 h0) rfl d_X8_blame_1 ?_
  refine r_if_ne (f := (oI Sh)) (pc := 4) 17 d_X8_blame_4 (by decide) (fun c1 => ?_) (fun c1 => ?_)
  · refine r_iconst (pc := 17) (0 : Int32) d_X8_blame_17 rfl ?_
    exact r_zret (pc := 18) rfl (by decide) d_X8_blame_18
  · refine r_aload_n (pc := 7) 0 d_X8_blame_7 rfl rfl ?_
    refine r_iload_n (pc := 8) 1 d_X8_blame_8 rfl rfl ?_
    refine r_putI (pc := 9) p_X8_34 (K_2 h0) rfl (Or.inl rfl) d_X8_blame_9 ?_
    refine r_letD (f := (oI Sh)) (fun D2 => ?_)
    refine r_aload_n (pc := 12) 0 d_X8_blame_12 rfl rfl ?_
    refine r_iload_n (pc := 13) 2 d_X8_blame_13 rfl rfl ?_
    refine r_putI (pc := 14) p_X8_9 (K_2 h0) rfl (Or.inl rfl) d_X8_blame_14 ?_
    refine r_letD (f := (oI Sh)) (fun D3 => ?_)
    refine r_iconst (pc := 17) (0 : Int32) d_X8_blame_17 rfl ?_
    exact r_zret (pc := 18) rfl (by decide) d_X8_blame_18
/-! CoveredSigns$Scan.next -/
theorem d_X8_next_0 : decode (yB m_X8_next) 0 = .ok (.aload_n 0, 1) := by decide +kernel
theorem d_X8_next_1 : decode (yB m_X8_next) 1 = .ok (.getfield 31, 3) := by decide +kernel
theorem d_X8_next_4 : decode (yB m_X8_next) 4 = .ok (.ifCond .lt 53, 3) := by decide +kernel
theorem d_X8_next_7 : decode (yB m_X8_next) 7 = .ok (.aload_n 0, 1) := by decide +kernel
theorem d_X8_next_8 : decode (yB m_X8_next) 8 = .ok (.getfield 31, 3) := by decide +kernel
theorem d_X8_next_11 : decode (yB m_X8_next) 11 = .ok (.aload_n 0, 1) := by decide +kernel
theorem d_X8_next_12 : decode (yB m_X8_next) 12 = .ok (.getfield 28, 3) := by decide +kernel
theorem d_X8_next_15 : decode (yB m_X8_next) 15 = .ok (.if_icmp .ge 42, 3) := by decide +kernel
theorem d_X8_next_18 : decode (yB m_X8_next) 18 = .ok (.aload_n 0, 1) := by decide +kernel
theorem d_X8_next_19 : decode (yB m_X8_next) 19 = .ok (.getfield 31, 3) := by decide +kernel
theorem d_X8_next_22 : decode (yB m_X8_next) 22 = .ok (.aload_n 0, 1) := by decide +kernel
theorem d_X8_next_23 : decode (yB m_X8_next) 23 = .ok (.getfield 15, 3) := by decide +kernel
theorem d_X8_next_26 : decode (yB m_X8_next) 26 = .ok (.arraylength, 1) := by decide +kernel
theorem d_X8_next_27 : decode (yB m_X8_next) 27 = .ok (.if_icmp .ge 30, 3) := by decide +kernel
theorem d_X8_next_30 : decode (yB m_X8_next) 30 = .ok (.aload_n 0, 1) := by decide +kernel
theorem d_X8_next_31 : decode (yB m_X8_next) 31 = .ok (.getfield 15, 3) := by decide +kernel
theorem d_X8_next_34 : decode (yB m_X8_next) 34 = .ok (.aload_n 0, 1) := by decide +kernel
theorem d_X8_next_35 : decode (yB m_X8_next) 35 = .ok (.getfield 31, 3) := by decide +kernel
theorem d_X8_next_38 : decode (yB m_X8_next) 38 = .ok (.baload, 1) := by decide +kernel
theorem d_X8_next_39 : decode (yB m_X8_next) 39 = .ok (.bipush 32, 2) := by decide +kernel
theorem d_X8_next_41 : decode (yB m_X8_next) 41 = .ok (.if_icmp .ne 16, 3) := by decide +kernel
theorem d_X8_next_44 : decode (yB m_X8_next) 44 = .ok (.aload_n 0, 1) := by decide +kernel
theorem d_X8_next_45 : decode (yB m_X8_next) 45 = .ok (.dup, 1) := by decide +kernel
theorem d_X8_next_46 : decode (yB m_X8_next) 46 = .ok (.getfield 31, 3) := by decide +kernel
theorem d_X8_next_49 : decode (yB m_X8_next) 49 = .ok (.iconst 1, 1) := by decide +kernel
theorem d_X8_next_50 : decode (yB m_X8_next) 50 = .ok (.iadd, 1) := by decide +kernel
theorem d_X8_next_51 : decode (yB m_X8_next) 51 = .ok (.putfield 31, 3) := by decide +kernel
theorem d_X8_next_54 : decode (yB m_X8_next) 54 = .ok (.goto (-54), 3) := by decide +kernel
theorem d_X8_next_57 : decode (yB m_X8_next) 57 = .ok (.aload_n 0, 1) := by decide +kernel
theorem d_X8_next_58 : decode (yB m_X8_next) 58 = .ok (.getfield 31, 3) := by decide +kernel
theorem d_X8_next_61 : decode (yB m_X8_next) 61 = .ok (.ireturn, 1) := by decide +kernel
def fn_X8_next_0  : Nat → zD → Option (Int32 × zD)
  | 0, _ => none
  | n + 1, D => (if (gI D 2 2) < 0 then ((some ((gI D 2 2), D))) else ((if (gI D 2 1) ≤ (gI D 2 2) then ((some ((gI D 2 2), D))) else ((if (Int32.ofNat 500) ≤ (gI D 2 2) then ((some ((gI D 2 2), D))) else (zck (gI D 2 2) 500 <| (if (gI D 1 (gI D 2 2).toNatClampNeg) = (32 : Int32) then (zlet (sI D 2 2 ((gI D 2 2) + (1 : Int32))) fun D6 => ((fn_X8_next_0  n) D6)) else ((some ((gI D 2 2), D))))))))))
def fn_X8_next (D : zD) : Option (Int32 × zD) := (fn_X8_next_0 zFU D)
theorem s_X8_next_0 {X : zX} {Sh : zSh} {d : Nat} (hst : (zl X).stackTraces = false) (h0 : zSh0 Sh) (hd : 0 ≤ d)  : ∀ (n : Nat)  (D : zD) , Rn X m_X8_next (d + 1) 0 [(0, .ref 2)] [] (Sh, D) ((oI Sh) (fn_X8_next_0  n D)) := by
  intro n
  induction n with
  | zero => intro D; exact Rn_none rfl
  | succ n hk0 =>
    intro D
    rw [fn_X8_next_0]
    refine r_aload_n (pc := 0) 0 d_X8_next_0 rfl rfl ?_
    refine q_gI (pc := 1) g_X8_31 (K_2 h0) rfl d_X8_next_1 ?_
    refine r_if_lt (f := (oI Sh)) (pc := 4) 57 d_X8_next_4 (by decide) (fun c1 => ?_) (fun c1 => ?_)
    · refine r_aload_n (pc := 57) 0 d_X8_next_57 rfl rfl ?_
      refine q_gI (pc := 58) g_X8_31 (K_2 h0) rfl d_X8_next_58 ?_
      exact r_iret (pc := 61) rfl d_X8_next_61
    · refine r_aload_n (pc := 7) 0 d_X8_next_7 rfl rfl ?_
      refine q_gI (pc := 8) g_X8_31 (K_2 h0) rfl d_X8_next_8 ?_
      refine r_aload_n (pc := 11) 0 d_X8_next_11 rfl rfl ?_
      refine q_gI (pc := 12) g_X8_28 (K_2 h0) rfl d_X8_next_12 ?_
      refine r_icmp_ge (f := (oI Sh)) (pc := 15) 57 d_X8_next_15 (by decide) (fun c2 => ?_) (fun c2 => ?_)
      · refine r_aload_n (pc := 57) 0 d_X8_next_57 rfl rfl ?_
        refine q_gI (pc := 58) g_X8_31 (K_2 h0) rfl d_X8_next_58 ?_
        exact r_iret (pc := 61) rfl d_X8_next_61
      · refine r_aload_n (pc := 18) 0 d_X8_next_18 rfl rfl ?_
        refine q_gI (pc := 19) g_X8_31 (K_2 h0) rfl d_X8_next_19 ?_
        refine r_aload_n (pc := 22) 0 d_X8_next_22 rfl rfl ?_
        refine r_getR (pc := 23) g_X8_15 (K_2 h0) rfl (R_2_0 h0) d_X8_next_23 ?_
        refine r_alen (pc := 26) (K_1 h0) (by decide) d_X8_next_26 ?_
        refine r_icmp_ge (f := (oI Sh)) (pc := 27) 57 d_X8_next_27 (by decide) (fun c3 => ?_) (fun c3 => ?_)
        · refine r_aload_n (pc := 57) 0 d_X8_next_57 rfl rfl ?_
          refine q_gI (pc := 58) g_X8_31 (K_2 h0) rfl d_X8_next_58 ?_
          exact r_iret (pc := 61) rfl d_X8_next_61
        · refine r_aload_n (pc := 30) 0 d_X8_next_30 rfl rfl ?_
          refine r_getR (pc := 31) g_X8_15 (K_2 h0) rfl (R_2_0 h0) d_X8_next_31 ?_
          refine r_aload_n (pc := 34) 0 d_X8_next_34 rfl rfl ?_
          refine q_gI (pc := 35) g_X8_31 (K_2 h0) rfl d_X8_next_35 ?_
          refine r_ck (f := (oI Sh)) rfl (fun hc4 => ?_)
          refine q_bald (pc := 38) (j := (gI D 2 2).toNatClampNeg) (K_1 h0) hc4 rfl d_X8_next_38 ?_
          refine r_bipush (pc := 39) (32 : Int32) d_X8_next_39 rfl ?_
          refine r_icmp_ne (f := (oI Sh)) (pc := 41) 57 d_X8_next_41 (by decide) (fun c5 => ?_) (fun c5 => ?_)
          · refine r_aload_n (pc := 57) 0 d_X8_next_57 rfl rfl ?_
            refine q_gI (pc := 58) g_X8_31 (K_2 h0) rfl d_X8_next_58 ?_
            exact r_iret (pc := 61) rfl d_X8_next_61
          · refine r_aload_n (pc := 44) 0 d_X8_next_44 rfl rfl ?_
            refine r_dup (pc := 45) d_X8_next_45 rfl ?_
            refine q_gI (pc := 46) g_X8_31 (K_2 h0) rfl d_X8_next_46 ?_
            refine r_iconst (pc := 49) (1 : Int32) d_X8_next_49 rfl ?_
            refine r_iadd (pc := 50) d_X8_next_50 ?_
            refine r_putI (pc := 51) p_X8_31 (K_2 h0) rfl (Or.inl rfl) d_X8_next_51 ?_
            refine r_letD (f := (oI Sh)) (fun D6 => ?_)
            refine r_goto (pc := 54) 0 d_X8_next_54 (by decide) ?_
            refine r_pick [0] (ls' := [(0, .ref 2)]) rfl ?_
            exact hk0 D6 
theorem s_X8_next {X : zX} {Sh : zSh} {d : Nat} (hst : (zl X).stackTraces = false) (h0 : zSh0 Sh) (hd : 1 ≤ d)  {D : zD} : Sd X m_X8_next d [.ref 2] (Sh, D) ((oI Sh) (fn_X8_next D)) := by
  obtain ⟨d, rfl⟩ : ∃ e, d = e + 1 := ⟨d - 1, by omega⟩
  replace hd : 0 ≤ d := by omega
  refine z_body ck_X8_next rfl (Nat.le_of_ble_eq_true rfl) rfl hst ?_
  rw [fn_X8_next]
  show Rn X m_X8_next (d + 1) 0 [(0, .ref 2)] [] (Sh, D) _
  refine r_pick [0] (ls' := [(0, .ref 2)]) rfl ?_
  exact s_X8_next_0 hst h0 hd zFU  D
/-! CoveredSigns$Scan.ended -/
theorem d_X8_ended_0 : decode (yB m_X8_ended) 0 = .ok (.aload_n 0, 1) := by decide +kernel
theorem d_X8_ended_1 : decode (yB m_X8_ended) 1 = .ok (.invokevirtual 37, 3) := by decide +kernel
theorem d_X8_ended_4 : decode (yB m_X8_ended) 4 = .ok (.aload_n 0, 1) := by decide +kernel
theorem d_X8_ended_5 : decode (yB m_X8_ended) 5 = .ok (.getfield 28, 3) := by decide +kernel
theorem d_X8_ended_8 : decode (yB m_X8_ended) 8 = .ok (.if_icmp .lt 7, 3) := by decide +kernel
theorem d_X8_ended_11 : decode (yB m_X8_ended) 11 = .ok (.iconst 1, 1) := by decide +kernel
theorem d_X8_ended_12 : decode (yB m_X8_ended) 12 = .ok (.goto 4, 3) := by decide +kernel
theorem d_X8_ended_15 : decode (yB m_X8_ended) 15 = .ok (.iconst 0, 1) := by decide +kernel
theorem d_X8_ended_16 : decode (yB m_X8_ended) 16 = .ok (.ireturn, 1) := by decide +kernel
def fn_X8_ended (D : zD) : Option (Int32 × zD) := (fn_X8_next D).bind fun q1 => (if q1.1 < (gI q1.2 2 1) then ((some ((0 : Int32), q1.2))) else ((some ((1 : Int32), q1.2))))
theorem s_X8_ended {X : zX} {Sh : zSh} {d : Nat} (hst : (zl X).stackTraces = false) (h0 : zSh0 Sh) (hd : 2 ≤ d)  {D : zD} : Sd X m_X8_ended d [.ref 2] (Sh, D) ((oI Sh) (fn_X8_ended D)) := by
  obtain ⟨d, rfl⟩ : ∃ e, d = e + 1 := ⟨d - 1, by omega⟩
  replace hd : 1 ≤ d := by omega
  refine z_body ck_X8_ended rfl (Nat.le_of_ble_eq_true rfl) rfl hst ?_
  rw [fn_X8_ended]
  show Rn X m_X8_ended (d + 1) 0 [(0, .ref 2)] [] (Sh, D) _
  refine r_aload_n (pc := 0) 0 d_X8_ended_0 rfl rfl ?_
  refine q_cI (f := (oI Sh)) (av := [.ref 2]) (st := []) (z_runV ck_X8_next rfl ml_X8_37 ci_X8_next cv_X8_next (K_2 h0) (ci := 8) rfl rfl (Nat.le_of_ble_eq_true rfl) d_X8_ended_1) (s_X8_next hst h0 (by omega)) kp_I (fun q1 _ => ?_)
  refine r_aload_n (pc := 4) 0 d_X8_ended_4 rfl rfl ?_
  refine q_gI (pc := 5) g_X8_28 (K_2 h0) rfl d_X8_ended_5 ?_
  refine r_icmp_lt (f := (oI Sh)) (pc := 8) 15 d_X8_ended_8 (by decide) (fun c2 => ?_) (fun c2 => ?_)
  · refine r_iconst (pc := 15) (0 : Int32) d_X8_ended_15 rfl ?_
    exact r_zret (pc := 16) rfl (by decide) d_X8_ended_16
  · refine r_iconst (pc := 11) (1 : Int32) d_X8_ended_11 rfl ?_
    refine r_goto (pc := 12) 16 d_X8_ended_12 (by decide) ?_
    exact r_zret (pc := 16) rfl (by decide) d_X8_ended_16
/-! CoveredSigns$Scan.byteAt -/
theorem d_X8_byteAt_0 : decode (yB m_X8_byteAt) 0 = .ok (.iload_n 1, 1) := by decide +kernel
theorem d_X8_byteAt_1 : decode (yB m_X8_byteAt) 1 = .ok (.ifCond .lt 20, 3) := by decide +kernel
theorem d_X8_byteAt_4 : decode (yB m_X8_byteAt) 4 = .ok (.iload_n 1, 1) := by decide +kernel
theorem d_X8_byteAt_5 : decode (yB m_X8_byteAt) 5 = .ok (.aload_n 0, 1) := by decide +kernel
theorem d_X8_byteAt_6 : decode (yB m_X8_byteAt) 6 = .ok (.getfield 28, 3) := by decide +kernel
theorem d_X8_byteAt_9 : decode (yB m_X8_byteAt) 9 = .ok (.if_icmp .ge 12, 3) := by decide +kernel
theorem d_X8_byteAt_12 : decode (yB m_X8_byteAt) 12 = .ok (.iload_n 1, 1) := by decide +kernel
theorem d_X8_byteAt_13 : decode (yB m_X8_byteAt) 13 = .ok (.aload_n 0, 1) := by decide +kernel
theorem d_X8_byteAt_14 : decode (yB m_X8_byteAt) 14 = .ok (.getfield 15, 3) := by decide +kernel
theorem d_X8_byteAt_17 : decode (yB m_X8_byteAt) 17 = .ok (.arraylength, 1) := by decide +kernel
theorem d_X8_byteAt_18 : decode (yB m_X8_byteAt) 18 = .ok (.if_icmp .lt 5, 3) := by decide +kernel
theorem d_X8_byteAt_21 : decode (yB m_X8_byteAt) 21 = .ok (.iconst (-1), 1) := by decide +kernel
theorem d_X8_byteAt_22 : decode (yB m_X8_byteAt) 22 = .ok (.ireturn, 1) := by decide +kernel
theorem d_X8_byteAt_23 : decode (yB m_X8_byteAt) 23 = .ok (.aload_n 0, 1) := by decide +kernel
theorem d_X8_byteAt_24 : decode (yB m_X8_byteAt) 24 = .ok (.getfield 15, 3) := by decide +kernel
theorem d_X8_byteAt_27 : decode (yB m_X8_byteAt) 27 = .ok (.iload_n 1, 1) := by decide +kernel
theorem d_X8_byteAt_28 : decode (yB m_X8_byteAt) 28 = .ok (.baload, 1) := by decide +kernel
theorem d_X8_byteAt_29 : decode (yB m_X8_byteAt) 29 = .ok (.sipush 255, 3) := by decide +kernel
theorem d_X8_byteAt_32 : decode (yB m_X8_byteAt) 32 = .ok (.iand, 1) := by decide +kernel
theorem d_X8_byteAt_33 : decode (yB m_X8_byteAt) 33 = .ok (.ireturn, 1) := by decide +kernel
def fn_X8_byteAt (v1 : Int32) (D : zD) : Option Int32 := (if v1 < 0 then ((some (-1 : Int32))) else ((if (gI D 2 1) ≤ v1 then ((some (-1 : Int32))) else ((if v1 < (Int32.ofNat 500) then (zck v1 500 <| (some ((gI D 1 v1.toNatClampNeg) &&& (255 : Int32)))) else ((some (-1 : Int32))))))))
theorem s_X8_byteAt {X : zX} {Sh : zSh} {d : Nat} (hst : (zl X).stackTraces = false) (h0 : zSh0 Sh) (hd : 1 ≤ d) {v1 : Int32} {D : zD} : Sd X m_X8_byteAt d [.ref 2, .int v1] (Sh, D) ((oP Sh D) (fn_X8_byteAt v1 D)) := by
  obtain ⟨d, rfl⟩ : ∃ e, d = e + 1 := ⟨d - 1, by omega⟩
  replace hd : 0 ≤ d := by omega
  refine z_body ck_X8_byteAt rfl (Nat.le_of_ble_eq_true rfl) rfl hst ?_
  rw [fn_X8_byteAt]
  show Rn X m_X8_byteAt (d + 1) 0 [(0, .ref 2), (1, .int v1)] [] (Sh, D) _
  refine r_iload_n (pc := 0) 1 d_X8_byteAt_0 rfl rfl ?_
  refine r_if_lt (f := (oP Sh D)) (pc := 1) 21 d_X8_byteAt_1 (by decide) (fun c1 => ?_) (fun c1 => ?_)
  · refine r_iconst (pc := 21) (-1 : Int32) d_X8_byteAt_21 rfl ?_
    exact r_iret (pc := 22) rfl d_X8_byteAt_22
  · refine r_iload_n (pc := 4) 1 d_X8_byteAt_4 rfl rfl ?_
    refine r_aload_n (pc := 5) 0 d_X8_byteAt_5 rfl rfl ?_
    refine q_gI (pc := 6) g_X8_28 (K_2 h0) rfl d_X8_byteAt_6 ?_
    refine r_icmp_ge (f := (oP Sh D)) (pc := 9) 21 d_X8_byteAt_9 (by decide) (fun c2 => ?_) (fun c2 => ?_)
    · refine r_iconst (pc := 21) (-1 : Int32) d_X8_byteAt_21 rfl ?_
      exact r_iret (pc := 22) rfl d_X8_byteAt_22
    · refine r_iload_n (pc := 12) 1 d_X8_byteAt_12 rfl rfl ?_
      refine r_aload_n (pc := 13) 0 d_X8_byteAt_13 rfl rfl ?_
      refine r_getR (pc := 14) g_X8_15 (K_2 h0) rfl (R_2_0 h0) d_X8_byteAt_14 ?_
      refine r_alen (pc := 17) (K_1 h0) (by decide) d_X8_byteAt_17 ?_
      refine r_icmp_lt (f := (oP Sh D)) (pc := 18) 23 d_X8_byteAt_18 (by decide) (fun c3 => ?_) (fun c3 => ?_)
      · refine r_aload_n (pc := 23) 0 d_X8_byteAt_23 rfl rfl ?_
        refine r_getR (pc := 24) g_X8_15 (K_2 h0) rfl (R_2_0 h0) d_X8_byteAt_24 ?_
        refine r_iload_n (pc := 27) 1 d_X8_byteAt_27 rfl rfl ?_
        refine r_ck (f := (oP Sh D)) rfl (fun hc4 => ?_)
        refine q_bald (pc := 28) (j := v1.toNatClampNeg) (K_1 h0) hc4 rfl d_X8_byteAt_28 ?_
        refine r_sipush (pc := 29) (255 : Int32) d_X8_byteAt_29 rfl ?_
        refine r_iand (pc := 32) d_X8_byteAt_32 ?_
        exact r_iret (pc := 33) rfl d_X8_byteAt_33
      · refine r_iconst (pc := 21) (-1 : Int32) d_X8_byteAt_21 rfl ?_
        exact r_iret (pc := 22) rfl d_X8_byteAt_22
/-! CoveredSigns$Scan.takesMark -/
theorem d_X8_takesMark_0 : decode (yB m_X8_takesMark) 0 = .ok (.aload_n 0, 1) := by decide +kernel
theorem d_X8_takesMark_1 : decode (yB m_X8_takesMark) 1 = .ok (.aload_n 0, 1) := by decide +kernel
theorem d_X8_takesMark_2 : decode (yB m_X8_takesMark) 2 = .ok (.invokevirtual 37, 3) := by decide +kernel
theorem d_X8_takesMark_5 : decode (yB m_X8_takesMark) 5 = .ok (.invokevirtual 41, 3) := by decide +kernel
theorem d_X8_takesMark_8 : decode (yB m_X8_takesMark) 8 = .ok (.iload_n 1, 1) := by decide +kernel
theorem d_X8_takesMark_9 : decode (yB m_X8_takesMark) 9 = .ok (.if_icmp .eq 5, 3) := by decide +kernel
theorem d_X8_takesMark_12 : decode (yB m_X8_takesMark) 12 = .ok (.iconst 0, 1) := by decide +kernel
theorem d_X8_takesMark_13 : decode (yB m_X8_takesMark) 13 = .ok (.ireturn, 1) := by decide +kernel
theorem d_X8_takesMark_14 : decode (yB m_X8_takesMark) 14 = .ok (.aload_n 0, 1) := by decide +kernel
theorem d_X8_takesMark_15 : decode (yB m_X8_takesMark) 15 = .ok (.dup, 1) := by decide +kernel
theorem d_X8_takesMark_16 : decode (yB m_X8_takesMark) 16 = .ok (.getfield 31, 3) := by decide +kernel
theorem d_X8_takesMark_19 : decode (yB m_X8_takesMark) 19 = .ok (.iconst 1, 1) := by decide +kernel
theorem d_X8_takesMark_20 : decode (yB m_X8_takesMark) 20 = .ok (.iadd, 1) := by decide +kernel
theorem d_X8_takesMark_21 : decode (yB m_X8_takesMark) 21 = .ok (.putfield 31, 3) := by decide +kernel
theorem d_X8_takesMark_24 : decode (yB m_X8_takesMark) 24 = .ok (.iconst 1, 1) := by decide +kernel
theorem d_X8_takesMark_25 : decode (yB m_X8_takesMark) 25 = .ok (.ireturn, 1) := by decide +kernel
def fn_X8_takesMark (v1 : Int32) (D : zD) : Option (Int32 × zD) := (fn_X8_next D).bind fun q1 => (fn_X8_byteAt q1.1 q1.2).bind fun x2 => (if x2 = v1 then (zlet (sI q1.2 2 2 ((gI q1.2 2 2) + (1 : Int32))) fun D4 => (some ((1 : Int32), D4))) else ((some ((0 : Int32), q1.2))))
theorem s_X8_takesMark {X : zX} {Sh : zSh} {d : Nat} (hst : (zl X).stackTraces = false) (h0 : zSh0 Sh) (hd : 2 ≤ d) {v1 : Int32} {D : zD} : Sd X m_X8_takesMark d [.ref 2, .int v1] (Sh, D) ((oI Sh) (fn_X8_takesMark v1 D)) := by
  obtain ⟨d, rfl⟩ : ∃ e, d = e + 1 := ⟨d - 1, by omega⟩
  replace hd : 1 ≤ d := by omega
  refine z_body ck_X8_takesMark rfl (Nat.le_of_ble_eq_true rfl) rfl hst ?_
  rw [fn_X8_takesMark]
  show Rn X m_X8_takesMark (d + 1) 0 [(0, .ref 2), (1, .int v1)] [] (Sh, D) _
  refine r_aload_n (pc := 0) 0 d_X8_takesMark_0 rfl rfl ?_
  refine r_aload_n (pc := 1) 0 d_X8_takesMark_1 rfl rfl ?_
  refine q_cI (f := (oI Sh)) (av := [.ref 2]) (st := [.ref 2]) (z_runV ck_X8_next rfl ml_X8_37 ci_X8_next cv_X8_next (K_2 h0) (ci := 8) rfl rfl (Nat.le_of_ble_eq_true rfl) d_X8_takesMark_2) (s_X8_next hst h0 (by omega)) kp_I (fun q1 _ => ?_)
  refine q_cP (f := (oI Sh)) (av := [.ref 2, .int q1.1]) (st := []) (z_runV ck_X8_byteAt rfl ml_X8_41 ci_X8_byteAt cv_X8_byteAt (K_2 h0) (ci := 8) rfl rfl (Nat.le_of_ble_eq_true rfl) d_X8_takesMark_5) (s_X8_byteAt hst h0 (by omega)) kp_I (fun x2 _ => ?_)
  refine r_iload_n (pc := 8) 1 d_X8_takesMark_8 rfl rfl ?_
  refine r_icmp_eq (f := (oI Sh)) (pc := 9) 14 d_X8_takesMark_9 (by decide) (fun c3 => ?_) (fun c3 => ?_)
  · refine r_aload_n (pc := 14) 0 d_X8_takesMark_14 rfl rfl ?_
    refine r_dup (pc := 15) d_X8_takesMark_15 rfl ?_
    refine q_gI (pc := 16) g_X8_31 (K_2 h0) rfl d_X8_takesMark_16 ?_
    refine r_iconst (pc := 19) (1 : Int32) d_X8_takesMark_19 rfl ?_
    refine r_iadd (pc := 20) d_X8_takesMark_20 ?_
    refine r_putI (pc := 21) p_X8_31 (K_2 h0) rfl (Or.inl rfl) d_X8_takesMark_21 ?_
    refine r_letD (f := (oI Sh)) (fun D4 => ?_)
    refine r_iconst (pc := 24) (1 : Int32) d_X8_takesMark_24 rfl ?_
    exact r_zret (pc := 25) rfl (by decide) d_X8_takesMark_25
  · refine r_iconst (pc := 12) (0 : Int32) d_X8_takesMark_12 rfl ?_
    exact r_zret (pc := 13) rfl (by decide) d_X8_takesMark_13
/-! CoveredSigns$Scan.needsMark -/
theorem d_X8_needsMark_0 : decode (yB m_X8_needsMark) 0 = .ok (.aload_n 0, 1) := by decide +kernel
theorem d_X8_needsMark_1 : decode (yB m_X8_needsMark) 1 = .ok (.iload_n 1, 1) := by decide +kernel
theorem d_X8_needsMark_2 : decode (yB m_X8_needsMark) 2 = .ok (.invokevirtual 45, 3) := by decide +kernel
theorem d_X8_needsMark_5 : decode (yB m_X8_needsMark) 5 = .ok (.ifCond .ne 15, 3) := by decide +kernel
theorem d_X8_needsMark_8 : decode (yB m_X8_needsMark) 8 = .ok (.aload_n 0, 1) := by decide +kernel
theorem d_X8_needsMark_9 : decode (yB m_X8_needsMark) 9 = .ok (.iconst 1, 1) := by decide +kernel
theorem d_X8_needsMark_10 : decode (yB m_X8_needsMark) 10 = .ok (.aload_n 0, 1) := by decide +kernel
theorem d_X8_needsMark_11 : decode (yB m_X8_needsMark) 11 = .ok (.getfield 31, 3) := by decide +kernel
theorem d_X8_needsMark_14 : decode (yB m_X8_needsMark) 14 = .ok (.invokevirtual 49, 3) := by decide +kernel
theorem d_X8_needsMark_17 : decode (yB m_X8_needsMark) 17 = .ok (.ifCond .eq 7, 3) := by decide +kernel
theorem d_X8_needsMark_20 : decode (yB m_X8_needsMark) 20 = .ok (.iconst 1, 1) := by decide +kernel
theorem d_X8_needsMark_21 : decode (yB m_X8_needsMark) 21 = .ok (.goto 4, 3) := by decide +kernel
theorem d_X8_needsMark_24 : decode (yB m_X8_needsMark) 24 = .ok (.iconst 0, 1) := by decide +kernel
theorem d_X8_needsMark_25 : decode (yB m_X8_needsMark) 25 = .ok (.ireturn, 1) := by decide +kernel
def fn_X8_needsMark (v1 : Int32) (D : zD) : Option (Int32 × zD) := (fn_X8_takesMark v1 D).bind fun q1 => (if q1.1 = 0 then ((fn_X8_blame (1 : Int32) (gI q1.2 2 2) q1.2).bind fun q3 => (if q3.1 = 0 then ((some ((0 : Int32), q3.2))) else ((some ((1 : Int32), q3.2))))) else ((some ((1 : Int32), q1.2))))
theorem s_X8_needsMark {X : zX} {Sh : zSh} {d : Nat} (hst : (zl X).stackTraces = false) (h0 : zSh0 Sh) (hd : 3 ≤ d) {v1 : Int32} {D : zD} : Sd X m_X8_needsMark d [.ref 2, .int v1] (Sh, D) ((oI Sh) (fn_X8_needsMark v1 D)) := by
  obtain ⟨d, rfl⟩ : ∃ e, d = e + 1 := ⟨d - 1, by omega⟩
  replace hd : 2 ≤ d := by omega
  refine z_body ck_X8_needsMark rfl (Nat.le_of_ble_eq_true rfl) rfl hst ?_
  rw [fn_X8_needsMark]
  show Rn X m_X8_needsMark (d + 1) 0 [(0, .ref 2), (1, .int v1)] [] (Sh, D) _
  refine r_aload_n (pc := 0) 0 d_X8_needsMark_0 rfl rfl ?_
  refine r_iload_n (pc := 1) 1 d_X8_needsMark_1 rfl rfl ?_
  refine q_cI (f := (oI Sh)) (av := [.ref 2, .int v1]) (st := []) (z_runV ck_X8_takesMark rfl ml_X8_45 ci_X8_takesMark cv_X8_takesMark (K_2 h0) (ci := 8) rfl rfl (Nat.le_of_ble_eq_true rfl) d_X8_needsMark_2) (s_X8_takesMark hst h0 (by omega)) kp_I (fun q1 _ => ?_)
  refine r_if_ne (f := (oI Sh)) (pc := 5) 20 d_X8_needsMark_5 (by decide) (fun c2 => ?_) (fun c2 => ?_)
  · refine r_iconst (pc := 20) (1 : Int32) d_X8_needsMark_20 rfl ?_
    refine r_goto (pc := 21) 25 d_X8_needsMark_21 (by decide) ?_
    exact r_zret (pc := 25) rfl (by decide) d_X8_needsMark_25
  · refine r_aload_n (pc := 8) 0 d_X8_needsMark_8 rfl rfl ?_
    refine r_iconst (pc := 9) (1 : Int32) d_X8_needsMark_9 rfl ?_
    refine r_aload_n (pc := 10) 0 d_X8_needsMark_10 rfl rfl ?_
    refine q_gI (pc := 11) g_X8_31 (K_2 h0) rfl d_X8_needsMark_11 ?_
    refine q_cI (f := (oI Sh)) (av := [.ref 2, .int (1 : Int32), .int (gI q1.2 2 2)]) (st := []) (z_runV ck_X8_blame rfl ml_X8_49 ci_X8_blame cv_X8_blame (K_2 h0) (ci := 8) rfl rfl (Nat.le_of_ble_eq_true rfl) d_X8_needsMark_14) (s_X8_blame hst h0 (by omega)) kp_I (fun q3 _ => ?_)
    refine r_if_eq (f := (oI Sh)) (pc := 17) 24 d_X8_needsMark_17 (by decide) (fun c4 => ?_) (fun c4 => ?_)
    · refine r_iconst (pc := 24) (0 : Int32) d_X8_needsMark_24 rfl ?_
      exact r_zret (pc := 25) rfl (by decide) d_X8_needsMark_25
    · refine r_iconst (pc := 20) (1 : Int32) d_X8_needsMark_20 rfl ?_
      refine r_goto (pc := 21) 25 d_X8_needsMark_21 (by decide) ?_
      exact r_zret (pc := 25) rfl (by decide) d_X8_needsMark_25
/-! CoveredSigns$Scan.lettersFrom -/
theorem d_X8_lettersFrom_0 : decode (yB m_X8_lettersFrom) 0 = .ok (.iload_n 1, 1) := by decide +kernel
theorem d_X8_lettersFrom_1 : decode (yB m_X8_lettersFrom) 1 = .ok (.istore_n 2, 1) := by decide +kernel
theorem d_X8_lettersFrom_2 : decode (yB m_X8_lettersFrom) 2 = .ok (.iload_n 2, 1) := by decide +kernel
theorem d_X8_lettersFrom_3 : decode (yB m_X8_lettersFrom) 3 = .ok (.aload_n 0, 1) := by decide +kernel
theorem d_X8_lettersFrom_4 : decode (yB m_X8_lettersFrom) 4 = .ok (.getfield 28, 3) := by decide +kernel
theorem d_X8_lettersFrom_7 : decode (yB m_X8_lettersFrom) 7 = .ok (.if_icmp .ge 29, 3) := by decide +kernel
theorem d_X8_lettersFrom_10 : decode (yB m_X8_lettersFrom) 10 = .ok (.aload_n 0, 1) := by decide +kernel
theorem d_X8_lettersFrom_11 : decode (yB m_X8_lettersFrom) 11 = .ok (.iload_n 2, 1) := by decide +kernel
theorem d_X8_lettersFrom_12 : decode (yB m_X8_lettersFrom) 12 = .ok (.invokevirtual 41, 3) := by decide +kernel
theorem d_X8_lettersFrom_15 : decode (yB m_X8_lettersFrom) 15 = .ok (.bipush 97, 2) := by decide +kernel
theorem d_X8_lettersFrom_17 : decode (yB m_X8_lettersFrom) 17 = .ok (.if_icmp .lt 19, 3) := by decide +kernel
theorem d_X8_lettersFrom_20 : decode (yB m_X8_lettersFrom) 20 = .ok (.aload_n 0, 1) := by decide +kernel
theorem d_X8_lettersFrom_21 : decode (yB m_X8_lettersFrom) 21 = .ok (.iload_n 2, 1) := by decide +kernel
theorem d_X8_lettersFrom_22 : decode (yB m_X8_lettersFrom) 22 = .ok (.invokevirtual 41, 3) := by decide +kernel
theorem d_X8_lettersFrom_25 : decode (yB m_X8_lettersFrom) 25 = .ok (.bipush 122, 2) := by decide +kernel
theorem d_X8_lettersFrom_27 : decode (yB m_X8_lettersFrom) 27 = .ok (.if_icmp .gt 9, 3) := by decide +kernel
theorem d_X8_lettersFrom_30 : decode (yB m_X8_lettersFrom) 30 = .ok (.iinc 2 1, 3) := by decide +kernel
theorem d_X8_lettersFrom_33 : decode (yB m_X8_lettersFrom) 33 = .ok (.goto (-31), 3) := by decide +kernel
theorem d_X8_lettersFrom_36 : decode (yB m_X8_lettersFrom) 36 = .ok (.iload_n 2, 1) := by decide +kernel
theorem d_X8_lettersFrom_37 : decode (yB m_X8_lettersFrom) 37 = .ok (.iload_n 1, 1) := by decide +kernel
theorem d_X8_lettersFrom_38 : decode (yB m_X8_lettersFrom) 38 = .ok (.isub, 1) := by decide +kernel
theorem d_X8_lettersFrom_39 : decode (yB m_X8_lettersFrom) 39 = .ok (.ireturn, 1) := by decide +kernel
def fn_X8_lettersFrom_2 (v1 : Int32) (D : zD) : Nat → Int32 → Option Int32
  | 0, _ => none
  | n + 1, v2 => (if (gI D 2 1) ≤ v2 then ((some (v2 - v1))) else ((fn_X8_byteAt v2 D).bind fun x2 => (if x2 < (97 : Int32) then ((some (v2 - v1))) else ((fn_X8_byteAt v2 D).bind fun x4 => (if (122 : Int32) < x4 then ((some (v2 - v1))) else (((fn_X8_lettersFrom_2 v1 D n) (v2 + (1 : Int32)))))))))
def fn_X8_lettersFrom (v1 : Int32) (D : zD) : Option Int32 := (fn_X8_lettersFrom_2 v1 D zFU v1)
theorem s_X8_lettersFrom_2 {X : zX} {Sh : zSh} {d : Nat} (hst : (zl X).stackTraces = false) (h0 : zSh0 Sh) (hd : 1 ≤ d) {v1 : Int32} (D : zD) : ∀ (n : Nat) (v2 : Int32) , Rn X m_X8_lettersFrom (d + 1) 2 [(0, .ref 2), (1, .int v1), (2, .int v2)] [] (Sh, D) ((oP Sh D) (fn_X8_lettersFrom_2 v1 D n v2)) := by
  intro n
  induction n with
  | zero => intro v2; exact Rn_none rfl
  | succ n hk2 =>
    intro v2
    rw [fn_X8_lettersFrom_2]
    refine r_iload_n (pc := 2) 2 d_X8_lettersFrom_2 rfl rfl ?_
    refine r_aload_n (pc := 3) 0 d_X8_lettersFrom_3 rfl rfl ?_
    refine q_gI (pc := 4) g_X8_28 (K_2 h0) rfl d_X8_lettersFrom_4 ?_
    refine r_icmp_ge (f := (oP Sh D)) (pc := 7) 36 d_X8_lettersFrom_7 (by decide) (fun c1 => ?_) (fun c1 => ?_)
    · refine r_iload_n (pc := 36) 2 d_X8_lettersFrom_36 rfl rfl ?_
      refine r_iload_n (pc := 37) 1 d_X8_lettersFrom_37 rfl rfl ?_
      refine r_isub (pc := 38) d_X8_lettersFrom_38 ?_
      exact r_iret (pc := 39) rfl d_X8_lettersFrom_39
    · refine r_aload_n (pc := 10) 0 d_X8_lettersFrom_10 rfl rfl ?_
      refine r_iload_n (pc := 11) 2 d_X8_lettersFrom_11 rfl rfl ?_
      refine q_cP (f := (oP Sh D)) (av := [.ref 2, .int v2]) (st := []) (z_runV ck_X8_byteAt rfl ml_X8_41 ci_X8_byteAt cv_X8_byteAt (K_2 h0) (ci := 8) rfl rfl (Nat.le_of_ble_eq_true rfl) d_X8_lettersFrom_12) (s_X8_byteAt hst h0 (by omega)) kp_P (fun x2 _ => ?_)
      refine r_bipush (pc := 15) (97 : Int32) d_X8_lettersFrom_15 rfl ?_
      refine r_icmp_lt (f := (oP Sh D)) (pc := 17) 36 d_X8_lettersFrom_17 (by decide) (fun c3 => ?_) (fun c3 => ?_)
      · refine r_iload_n (pc := 36) 2 d_X8_lettersFrom_36 rfl rfl ?_
        refine r_iload_n (pc := 37) 1 d_X8_lettersFrom_37 rfl rfl ?_
        refine r_isub (pc := 38) d_X8_lettersFrom_38 ?_
        exact r_iret (pc := 39) rfl d_X8_lettersFrom_39
      · refine r_aload_n (pc := 20) 0 d_X8_lettersFrom_20 rfl rfl ?_
        refine r_iload_n (pc := 21) 2 d_X8_lettersFrom_21 rfl rfl ?_
        refine q_cP (f := (oP Sh D)) (av := [.ref 2, .int v2]) (st := []) (z_runV ck_X8_byteAt rfl ml_X8_41 ci_X8_byteAt cv_X8_byteAt (K_2 h0) (ci := 8) rfl rfl (Nat.le_of_ble_eq_true rfl) d_X8_lettersFrom_22) (s_X8_byteAt hst h0 (by omega)) kp_P (fun x4 _ => ?_)
        refine r_bipush (pc := 25) (122 : Int32) d_X8_lettersFrom_25 rfl ?_
        refine r_icmp_gt (f := (oP Sh D)) (pc := 27) 36 d_X8_lettersFrom_27 (by decide) (fun c5 => ?_) (fun c5 => ?_)
        · refine r_iload_n (pc := 36) 2 d_X8_lettersFrom_36 rfl rfl ?_
          refine r_iload_n (pc := 37) 1 d_X8_lettersFrom_37 rfl rfl ?_
          refine r_isub (pc := 38) d_X8_lettersFrom_38 ?_
          exact r_iret (pc := 39) rfl d_X8_lettersFrom_39
        · refine r_iinc (pc := 30) ((v2 + (1 : Int32))) 2 (ls' := [(2, .int (v2 + (1 : Int32))), (0, .ref 2), (1, .int v1)]) d_X8_lettersFrom_30 rfl rfl (Nat.le_of_ble_eq_true rfl) rfl ?_
          refine r_goto (pc := 33) 2 d_X8_lettersFrom_33 (by decide) ?_
          refine r_pick [1, 2, 0] (ls' := [(0, .ref 2), (1, .int v1), (2, .int (v2 + (1 : Int32)))]) rfl ?_
          exact hk2 (v2 + (1 : Int32)) 
theorem s_X8_lettersFrom {X : zX} {Sh : zSh} {d : Nat} (hst : (zl X).stackTraces = false) (h0 : zSh0 Sh) (hd : 2 ≤ d) {v1 : Int32} {D : zD} : Sd X m_X8_lettersFrom d [.ref 2, .int v1] (Sh, D) ((oP Sh D) (fn_X8_lettersFrom v1 D)) := by
  obtain ⟨d, rfl⟩ : ∃ e, d = e + 1 := ⟨d - 1, by omega⟩
  replace hd : 1 ≤ d := by omega
  refine z_body ck_X8_lettersFrom rfl (Nat.le_of_ble_eq_true rfl) rfl hst ?_
  rw [fn_X8_lettersFrom]
  show Rn X m_X8_lettersFrom (d + 1) 0 [(0, .ref 2), (1, .int v1)] [] (Sh, D) _
  refine r_iload_n (pc := 0) 1 d_X8_lettersFrom_0 rfl rfl ?_
  refine r_istore_n (pc := 1) (ls' := [(2, .int v1), (0, .ref 2), (1, .int v1)]) d_X8_lettersFrom_1 rfl (Nat.le_of_ble_eq_true rfl) rfl ?_
  refine r_pick [1, 2, 0] (ls' := [(0, .ref 2), (1, .int v1), (2, .int v1)]) rfl ?_
  exact s_X8_lettersFrom_2 hst h0 hd D zFU  v1
/-! CoveredSigns$Scan.takesWord -/
theorem d_X8_takesWord_0 : decode (yB m_X8_takesWord) 0 = .ok (.aload_n 0, 1) := by decide +kernel
theorem d_X8_takesWord_1 : decode (yB m_X8_takesWord) 1 = .ok (.invokevirtual 37, 3) := by decide +kernel
theorem d_X8_takesWord_4 : decode (yB m_X8_takesWord) 4 = .ok (.istore_n 2, 1) := by decide +kernel
theorem d_X8_takesWord_5 : decode (yB m_X8_takesWord) 5 = .ok (.aload_n 0, 1) := by decide +kernel
theorem d_X8_takesWord_6 : decode (yB m_X8_takesWord) 6 = .ok (.iload_n 2, 1) := by decide +kernel
theorem d_X8_takesWord_7 : decode (yB m_X8_takesWord) 7 = .ok (.invokevirtual 53, 3) := by decide +kernel
theorem d_X8_takesWord_10 : decode (yB m_X8_takesWord) 10 = .ok (.aload_n 1, 1) := by decide +kernel
theorem d_X8_takesWord_11 : decode (yB m_X8_takesWord) 11 = .ok (.invokevirtual 56, 3) := by decide +kernel
theorem d_X8_takesWord_14 : decode (yB m_X8_takesWord) 14 = .ok (.if_icmp .eq 5, 3) := by decide +kernel
theorem d_X8_takesWord_17 : decode (yB m_X8_takesWord) 17 = .ok (.iconst 0, 1) := by decide +kernel
theorem d_X8_takesWord_18 : decode (yB m_X8_takesWord) 18 = .ok (.ireturn, 1) := by decide +kernel
theorem d_X8_takesWord_19 : decode (yB m_X8_takesWord) 19 = .ok (.iconst 0, 1) := by decide +kernel
theorem d_X8_takesWord_20 : decode (yB m_X8_takesWord) 20 = .ok (.istore_n 3, 1) := by decide +kernel
theorem d_X8_takesWord_21 : decode (yB m_X8_takesWord) 21 = .ok (.iload_n 3, 1) := by decide +kernel
theorem d_X8_takesWord_22 : decode (yB m_X8_takesWord) 22 = .ok (.aload_n 1, 1) := by decide +kernel
theorem d_X8_takesWord_23 : decode (yB m_X8_takesWord) 23 = .ok (.invokevirtual 56, 3) := by decide +kernel
theorem d_X8_takesWord_26 : decode (yB m_X8_takesWord) 26 = .ok (.if_icmp .ge 26, 3) := by decide +kernel
theorem d_X8_takesWord_29 : decode (yB m_X8_takesWord) 29 = .ok (.aload_n 0, 1) := by decide +kernel
theorem d_X8_takesWord_30 : decode (yB m_X8_takesWord) 30 = .ok (.iload_n 2, 1) := by decide +kernel
theorem d_X8_takesWord_31 : decode (yB m_X8_takesWord) 31 = .ok (.iload_n 3, 1) := by decide +kernel
theorem d_X8_takesWord_32 : decode (yB m_X8_takesWord) 32 = .ok (.iadd, 1) := by decide +kernel
theorem d_X8_takesWord_33 : decode (yB m_X8_takesWord) 33 = .ok (.invokevirtual 41, 3) := by decide +kernel
theorem d_X8_takesWord_36 : decode (yB m_X8_takesWord) 36 = .ok (.aload_n 1, 1) := by decide +kernel
theorem d_X8_takesWord_37 : decode (yB m_X8_takesWord) 37 = .ok (.iload_n 3, 1) := by decide +kernel
theorem d_X8_takesWord_38 : decode (yB m_X8_takesWord) 38 = .ok (.invokevirtual 60, 3) := by decide +kernel
theorem d_X8_takesWord_41 : decode (yB m_X8_takesWord) 41 = .ok (.if_icmp .eq 5, 3) := by decide +kernel
theorem d_X8_takesWord_44 : decode (yB m_X8_takesWord) 44 = .ok (.iconst 0, 1) := by decide +kernel
theorem d_X8_takesWord_45 : decode (yB m_X8_takesWord) 45 = .ok (.ireturn, 1) := by decide +kernel
theorem d_X8_takesWord_46 : decode (yB m_X8_takesWord) 46 = .ok (.iinc 3 1, 3) := by decide +kernel
theorem d_X8_takesWord_49 : decode (yB m_X8_takesWord) 49 = .ok (.goto (-28), 3) := by decide +kernel
theorem d_X8_takesWord_52 : decode (yB m_X8_takesWord) 52 = .ok (.aload_n 0, 1) := by decide +kernel
theorem d_X8_takesWord_53 : decode (yB m_X8_takesWord) 53 = .ok (.iload_n 2, 1) := by decide +kernel
theorem d_X8_takesWord_54 : decode (yB m_X8_takesWord) 54 = .ok (.aload_n 1, 1) := by decide +kernel
theorem d_X8_takesWord_55 : decode (yB m_X8_takesWord) 55 = .ok (.invokevirtual 56, 3) := by decide +kernel
theorem d_X8_takesWord_58 : decode (yB m_X8_takesWord) 58 = .ok (.iadd, 1) := by decide +kernel
theorem d_X8_takesWord_59 : decode (yB m_X8_takesWord) 59 = .ok (.putfield 31, 3) := by decide +kernel
theorem d_X8_takesWord_62 : decode (yB m_X8_takesWord) 62 = .ok (.iconst 1, 1) := by decide +kernel
theorem d_X8_takesWord_63 : decode (yB m_X8_takesWord) 63 = .ok (.ireturn, 1) := by decide +kernel
def fn_X8_takesWord_52 (i1 : Nat) (v2 : Int32) (D : zD) : Option (Int32 × zD) := zlet (sI D 2 2 (v2 + (Int32.ofNat (z_lenS.getD i1 0)))) fun D5 => (some ((1 : Int32), D5))
def fn_X8_takesWord_21 (i1 : Nat) : Nat → Int32 → Int32 → zD → Option (Int32 × zD)
  | 0, _, _, _ => none
  | n + 1, v2, v3, D => (if (Int32.ofNat (z_lenS.getD i1 0)) ≤ v3 then ((fn_X8_takesWord_52 i1 v2 D)) else ((fn_X8_byteAt (v2 + v3) D).bind fun x6 => zck v3 (z_lenS.getD i1 0) <| (if x6 = (z_ch i1 v3.toNatClampNeg) then (((fn_X8_takesWord_21 i1 n) v2 (v3 + (1 : Int32)) D)) else ((some ((0 : Int32), D))))))
def fn_X8_takesWord (i1 : Nat) (D : zD) : Option (Int32 × zD) := (fn_X8_next D).bind fun q1 => (fn_X8_lettersFrom q1.1 q1.2).bind fun x2 => (if x2 = (Int32.ofNat (z_lenS.getD i1 0)) then ((fn_X8_takesWord_21 i1 zFU q1.1 (0 : Int32) q1.2)) else ((some ((0 : Int32), q1.2))))
theorem s_X8_takesWord_52 {X : zX} {Sh : zSh} {d : Nat} (hst : (zl X).stackTraces = false) (h0 : zSh0 Sh) (hd : 4 ≤ d) {i1 : Nat} (h_i1 : i1 < z_nS) (v2 : Int32) (D : zD)  : Rn X m_X8_takesWord (d + 1) 52 [(0, .ref 2), (1, .ref (1000000 + i1)), (2, .int v2)] [] (Sh, D) ((oI Sh) (fn_X8_takesWord_52 i1 v2 D)) := by
  rw [fn_X8_takesWord_52]
  refine r_aload_n (pc := 52) 0 d_X8_takesWord_52 rfl rfl ?_
  refine r_iload_n (pc := 53) 2 d_X8_takesWord_53 rfl rfl ?_
  refine r_aload_n (pc := 54) 1 d_X8_takesWord_54 rfl rfl ?_
  refine q_slen (f := (oI Sh)) (pc := 55) hst (by omega) h_i1 ml_X8_56 d_X8_takesWord_55 (Nat.le_of_ble_eq_true rfl) kp_I ?_
  refine r_iadd (pc := 58) d_X8_takesWord_58 ?_
  refine r_putI (pc := 59) p_X8_31 (K_2 h0) rfl (Or.inl rfl) d_X8_takesWord_59 ?_
  refine r_letD (f := (oI Sh)) (fun D5 => ?_)
  refine r_iconst (pc := 62) (1 : Int32) d_X8_takesWord_62 rfl ?_
  exact r_zret (pc := 63) rfl (by decide) d_X8_takesWord_63
theorem s_X8_takesWord_21 {X : zX} {Sh : zSh} {d : Nat} (hst : (zl X).stackTraces = false) (h0 : zSh0 Sh) (hd : 4 ≤ d) {i1 : Nat} (h_i1 : i1 < z_nS) : ∀ (n : Nat) (v2 : Int32) (v3 : Int32) (D : zD) , Rn X m_X8_takesWord (d + 1) 21 [(0, .ref 2), (1, .ref (1000000 + i1)), (2, .int v2), (3, .int v3)] [] (Sh, D) ((oI Sh) (fn_X8_takesWord_21 i1 n v2 v3 D)) := by
  intro n
  induction n with
  | zero => intro v2 v3 D; exact Rn_none rfl
  | succ n hk21 =>
    intro v2 v3 D
    rw [fn_X8_takesWord_21]
    refine r_iload_n (pc := 21) 3 d_X8_takesWord_21 rfl rfl ?_
    refine r_aload_n (pc := 22) 1 d_X8_takesWord_22 rfl rfl ?_
    refine q_slen (f := (oI Sh)) (pc := 23) hst (by omega) h_i1 ml_X8_56 d_X8_takesWord_23 (Nat.le_of_ble_eq_true rfl) kp_I ?_
    refine r_icmp_ge (f := (oI Sh)) (pc := 26) 52 d_X8_takesWord_26 (by decide) (fun c4 => ?_) (fun c4 => ?_)
    · refine r_pick [0, 1, 2] (ls' := [(0, .ref 2), (1, .ref (1000000 + i1)), (2, .int v2)]) rfl ?_
      exact s_X8_takesWord_52 hst h0 hd h_i1 v2 D
    · refine r_aload_n (pc := 29) 0 d_X8_takesWord_29 rfl rfl ?_
      refine r_iload_n (pc := 30) 2 d_X8_takesWord_30 rfl rfl ?_
      refine r_iload_n (pc := 31) 3 d_X8_takesWord_31 rfl rfl ?_
      refine r_iadd (pc := 32) d_X8_takesWord_32 ?_
      refine q_cP (f := (oI Sh)) (av := [.ref 2, .int (v2 + v3)]) (st := []) (z_runV ck_X8_byteAt rfl ml_X8_41 ci_X8_byteAt cv_X8_byteAt (K_2 h0) (ci := 8) rfl rfl (Nat.le_of_ble_eq_true rfl) d_X8_takesWord_33) (s_X8_byteAt hst h0 (by omega)) kp_I (fun x6 _ => ?_)
      refine r_aload_n (pc := 36) 1 d_X8_takesWord_36 rfl rfl ?_
      refine r_iload_n (pc := 37) 3 d_X8_takesWord_37 rfl rfl ?_
      refine r_ck (f := (oI Sh)) rfl (fun hc7 => ?_)
      refine q_char (f := (oI Sh)) (pc := 38) hst (by omega) h_i1 hc7 ml_X8_60 d_X8_takesWord_38 (Nat.le_of_ble_eq_true rfl) kp_I ?_
      refine r_icmp_eq (f := (oI Sh)) (pc := 41) 46 d_X8_takesWord_41 (by decide) (fun c8 => ?_) (fun c8 => ?_)
      · refine r_iinc (pc := 46) ((v3 + (1 : Int32))) 3 (ls' := [(3, .int (v3 + (1 : Int32))), (0, .ref 2), (1, .ref (1000000 + i1)), (2, .int v2)]) d_X8_takesWord_46 rfl rfl (Nat.le_of_ble_eq_true rfl) rfl ?_
        refine r_goto (pc := 49) 21 d_X8_takesWord_49 (by decide) ?_
        refine r_pick [1, 2, 3, 0] (ls' := [(0, .ref 2), (1, .ref (1000000 + i1)), (2, .int v2), (3, .int (v3 + (1 : Int32)))]) rfl ?_
        exact hk21 v2 (v3 + (1 : Int32)) D 
      · refine r_iconst (pc := 44) (0 : Int32) d_X8_takesWord_44 rfl ?_
        exact r_zret (pc := 45) rfl (by decide) d_X8_takesWord_45
theorem s_X8_takesWord {X : zX} {Sh : zSh} {d : Nat} (hst : (zl X).stackTraces = false) (h0 : zSh0 Sh) (hd : 5 ≤ d) {i1 : Nat} (h_i1 : i1 < z_nS) {D : zD} : Sd X m_X8_takesWord d [.ref 2, .ref (1000000 + i1)] (Sh, D) ((oI Sh) (fn_X8_takesWord i1 D)) := by
  obtain ⟨d, rfl⟩ : ∃ e, d = e + 1 := ⟨d - 1, by omega⟩
  replace hd : 4 ≤ d := by omega
  refine z_body ck_X8_takesWord rfl (Nat.le_of_ble_eq_true rfl) rfl hst ?_
  rw [fn_X8_takesWord]
  show Rn X m_X8_takesWord (d + 1) 0 [(0, .ref 2), (1, .ref (1000000 + i1))] [] (Sh, D) _
  refine r_aload_n (pc := 0) 0 d_X8_takesWord_0 rfl rfl ?_
  refine q_cI (f := (oI Sh)) (av := [.ref 2]) (st := []) (z_runV ck_X8_next rfl ml_X8_37 ci_X8_next cv_X8_next (K_2 h0) (ci := 8) rfl rfl (Nat.le_of_ble_eq_true rfl) d_X8_takesWord_1) (s_X8_next hst h0 (by omega)) kp_I (fun q1 _ => ?_)
  refine r_istore_n (pc := 4) (ls' := [(2, .int q1.1), (0, .ref 2), (1, .ref (1000000 + i1))]) d_X8_takesWord_4 rfl (Nat.le_of_ble_eq_true rfl) rfl ?_
  refine r_aload_n (pc := 5) 1 d_X8_takesWord_5 rfl rfl ?_
  refine r_iload_n (pc := 6) 0 d_X8_takesWord_6 rfl rfl ?_
  refine q_cP (f := (oI Sh)) (av := [.ref 2, .int q1.1]) (st := []) (z_runV ck_X8_lettersFrom rfl ml_X8_53 ci_X8_lettersFrom cv_X8_lettersFrom (K_2 h0) (ci := 8) rfl rfl (Nat.le_of_ble_eq_true rfl) d_X8_takesWord_7) (s_X8_lettersFrom hst h0 (by omega)) kp_I (fun x2 _ => ?_)
  refine r_aload_n (pc := 10) 2 d_X8_takesWord_10 rfl rfl ?_
  refine q_slen (f := (oI Sh)) (pc := 11) hst (by omega) h_i1 ml_X8_56 d_X8_takesWord_11 (Nat.le_of_ble_eq_true rfl) kp_I ?_
  refine r_icmp_eq (f := (oI Sh)) (pc := 14) 19 d_X8_takesWord_14 (by decide) (fun c3 => ?_) (fun c3 => ?_)
  · refine r_iconst (pc := 19) (0 : Int32) d_X8_takesWord_19 rfl ?_
    refine r_istore_n (pc := 20) (ls' := [(3, .int (0 : Int32)), (2, .int q1.1), (0, .ref 2), (1, .ref (1000000 + i1))]) d_X8_takesWord_20 rfl (Nat.le_of_ble_eq_true rfl) rfl ?_
    refine r_pick [2, 3, 1, 0] (ls' := [(0, .ref 2), (1, .ref (1000000 + i1)), (2, .int q1.1), (3, .int (0 : Int32))]) rfl ?_
    exact s_X8_takesWord_21 hst h0 hd h_i1 zFU  q1.1 (0 : Int32) q1.2
  · refine r_iconst (pc := 17) (0 : Int32) d_X8_takesWord_17 rfl ?_
    exact r_zret (pc := 18) rfl (by decide) d_X8_takesWord_18
/-! CoveredSigns$Scan.jump -/
theorem d_X8_jump_0 : decode (yB m_X8_jump) 0 = .ok (.aload_n 0, 1) := by decide +kernel
theorem d_X8_jump_1 : decode (yB m_X8_jump) 1 = .ok (.iconst 0, 1) := by decide +kernel
theorem d_X8_jump_2 : decode (yB m_X8_jump) 2 = .ok (.iload_n 1, 1) := by decide +kernel
theorem d_X8_jump_3 : decode (yB m_X8_jump) 3 = .ok (.aload_n 0, 1) := by decide +kernel
theorem d_X8_jump_4 : decode (yB m_X8_jump) 4 = .ok (.getfield 28, 3) := by decide +kernel
theorem d_X8_jump_7 : decode (yB m_X8_jump) 7 = .ok (.invokestatic 19, 3) := by decide +kernel
theorem d_X8_jump_10 : decode (yB m_X8_jump) 10 = .ok (.invokestatic 25, 3) := by decide +kernel
theorem d_X8_jump_13 : decode (yB m_X8_jump) 13 = .ok (.putfield 31, 3) := by decide +kernel
theorem d_X8_jump_16 : decode (yB m_X8_jump) 16 = .ok (.return_, 1) := by decide +kernel
def fn_X8_jump (v1 : Int32) (D : zD) : Option zD := zlet (sI D 2 2 (zmx (0 : Int32) (zmn v1 (gI D 2 1)))) fun D1 => (some D1)
theorem s_X8_jump {X : zX} {Sh : zSh} {d : Nat} (hst : (zl X).stackTraces = false) (h0 : zSh0 Sh) (hd : 2 ≤ d) {v1 : Int32} {D : zD} : Sd X m_X8_jump d [.ref 2, .int v1] (Sh, D) ((oV Sh) (fn_X8_jump v1 D)) := by
  obtain ⟨d, rfl⟩ : ∃ e, d = e + 1 := ⟨d - 1, by omega⟩
  replace hd : 1 ≤ d := by omega
  refine z_body ck_X8_jump rfl (Nat.le_of_ble_eq_true rfl) rfl hst ?_
  rw [fn_X8_jump]
  show Rn X m_X8_jump (d + 1) 0 [(0, .ref 2), (1, .int v1)] [] (Sh, D) _
  refine r_aload_n (pc := 0) 0 d_X8_jump_0 rfl rfl ?_
  refine r_iconst (pc := 1) (0 : Int32) d_X8_jump_1 rfl ?_
  refine r_iload_n (pc := 2) 1 d_X8_jump_2 rfl rfl ?_
  refine r_aload_n (pc := 3) 0 d_X8_jump_3 rfl rfl ?_
  refine q_gI (pc := 4) g_X8_28 (K_2 h0) rfl d_X8_jump_4 ?_
  refine r_mmin (pc := 7) ml_X8_19 (by omega) (Nat.le_of_ble_eq_true rfl) d_X8_jump_7 ?_
  refine r_mmax (pc := 10) ml_X8_25 (by omega) (Nat.le_of_ble_eq_true rfl) d_X8_jump_10 ?_
  refine r_putI (pc := 13) p_X8_31 (K_2 h0) rfl (Or.inl rfl) d_X8_jump_13 ?_
  refine r_letD (f := (oV Sh)) (fun D1 => ?_)
  exact r_vret (pc := 16) rfl d_X8_jump_16
/-! CoveredSigns$Scan.number -/
theorem d_X8_number_0 : decode (yB m_X8_number) 0 = .ok (.aload_n 0, 1) := by decide +kernel
theorem d_X8_number_1 : decode (yB m_X8_number) 1 = .ok (.invokevirtual 37, 3) := by decide +kernel
theorem d_X8_number_4 : decode (yB m_X8_number) 4 = .ok (.istore_n 3, 1) := by decide +kernel
theorem d_X8_number_5 : decode (yB m_X8_number) 5 = .ok (.iconst 0, 1) := by decide +kernel
theorem d_X8_number_6 : decode (yB m_X8_number) 6 = .ok (.istore 4, 2) := by decide +kernel
theorem d_X8_number_8 : decode (yB m_X8_number) 8 = .ok (.aload_n 0, 1) := by decide +kernel
theorem d_X8_number_9 : decode (yB m_X8_number) 9 = .ok (.getfield 31, 3) := by decide +kernel
theorem d_X8_number_12 : decode (yB m_X8_number) 12 = .ok (.aload_n 0, 1) := by decide +kernel
theorem d_X8_number_13 : decode (yB m_X8_number) 13 = .ok (.getfield 28, 3) := by decide +kernel
theorem d_X8_number_16 : decode (yB m_X8_number) 16 = .ok (.if_icmp .ge 67, 3) := by decide +kernel
theorem d_X8_number_19 : decode (yB m_X8_number) 19 = .ok (.aload_n 0, 1) := by decide +kernel
theorem d_X8_number_20 : decode (yB m_X8_number) 20 = .ok (.aload_n 0, 1) := by decide +kernel
theorem d_X8_number_21 : decode (yB m_X8_number) 21 = .ok (.getfield 31, 3) := by decide +kernel
theorem d_X8_number_24 : decode (yB m_X8_number) 24 = .ok (.invokevirtual 41, 3) := by decide +kernel
theorem d_X8_number_27 : decode (yB m_X8_number) 27 = .ok (.bipush 48, 2) := by decide +kernel
theorem d_X8_number_29 : decode (yB m_X8_number) 29 = .ok (.if_icmp .lt 54, 3) := by decide +kernel
theorem d_X8_number_32 : decode (yB m_X8_number) 32 = .ok (.aload_n 0, 1) := by decide +kernel
theorem d_X8_number_33 : decode (yB m_X8_number) 33 = .ok (.aload_n 0, 1) := by decide +kernel
theorem d_X8_number_34 : decode (yB m_X8_number) 34 = .ok (.getfield 31, 3) := by decide +kernel
theorem d_X8_number_37 : decode (yB m_X8_number) 37 = .ok (.invokevirtual 41, 3) := by decide +kernel
theorem d_X8_number_40 : decode (yB m_X8_number) 40 = .ok (.bipush 57, 2) := by decide +kernel
theorem d_X8_number_42 : decode (yB m_X8_number) 42 = .ok (.if_icmp .gt 41, 3) := by decide +kernel
theorem d_X8_number_45 : decode (yB m_X8_number) 45 = .ok (.sipush 1000, 3) := by decide +kernel
theorem d_X8_number_48 : decode (yB m_X8_number) 48 = .ok (.iload 4, 2) := by decide +kernel
theorem d_X8_number_50 : decode (yB m_X8_number) 50 = .ok (.bipush 10, 2) := by decide +kernel
theorem d_X8_number_52 : decode (yB m_X8_number) 52 = .ok (.imul, 1) := by decide +kernel
theorem d_X8_number_53 : decode (yB m_X8_number) 53 = .ok (.aload_n 0, 1) := by decide +kernel
theorem d_X8_number_54 : decode (yB m_X8_number) 54 = .ok (.aload_n 0, 1) := by decide +kernel
theorem d_X8_number_55 : decode (yB m_X8_number) 55 = .ok (.getfield 31, 3) := by decide +kernel
theorem d_X8_number_58 : decode (yB m_X8_number) 58 = .ok (.invokevirtual 41, 3) := by decide +kernel
theorem d_X8_number_61 : decode (yB m_X8_number) 61 = .ok (.iadd, 1) := by decide +kernel
theorem d_X8_number_62 : decode (yB m_X8_number) 62 = .ok (.bipush 48, 2) := by decide +kernel
theorem d_X8_number_64 : decode (yB m_X8_number) 64 = .ok (.isub, 1) := by decide +kernel
theorem d_X8_number_65 : decode (yB m_X8_number) 65 = .ok (.invokestatic 19, 3) := by decide +kernel
theorem d_X8_number_68 : decode (yB m_X8_number) 68 = .ok (.istore 4, 2) := by decide +kernel
theorem d_X8_number_70 : decode (yB m_X8_number) 70 = .ok (.aload_n 0, 1) := by decide +kernel
theorem d_X8_number_71 : decode (yB m_X8_number) 71 = .ok (.dup, 1) := by decide +kernel
theorem d_X8_number_72 : decode (yB m_X8_number) 72 = .ok (.getfield 31, 3) := by decide +kernel
theorem d_X8_number_75 : decode (yB m_X8_number) 75 = .ok (.iconst 1, 1) := by decide +kernel
theorem d_X8_number_76 : decode (yB m_X8_number) 76 = .ok (.iadd, 1) := by decide +kernel
theorem d_X8_number_77 : decode (yB m_X8_number) 77 = .ok (.putfield 31, 3) := by decide +kernel
theorem d_X8_number_80 : decode (yB m_X8_number) 80 = .ok (.goto (-72), 3) := by decide +kernel
theorem d_X8_number_83 : decode (yB m_X8_number) 83 = .ok (.aload_n 0, 1) := by decide +kernel
theorem d_X8_number_84 : decode (yB m_X8_number) 84 = .ok (.getfield 31, 3) := by decide +kernel
theorem d_X8_number_87 : decode (yB m_X8_number) 87 = .ok (.iload_n 3, 1) := by decide +kernel
theorem d_X8_number_88 : decode (yB m_X8_number) 88 = .ok (.if_icmp .ne 12, 3) := by decide +kernel
theorem d_X8_number_91 : decode (yB m_X8_number) 91 = .ok (.aload_n 0, 1) := by decide +kernel
theorem d_X8_number_92 : decode (yB m_X8_number) 92 = .ok (.iconst 1, 1) := by decide +kernel
theorem d_X8_number_93 : decode (yB m_X8_number) 93 = .ok (.iload_n 3, 1) := by decide +kernel
theorem d_X8_number_94 : decode (yB m_X8_number) 94 = .ok (.invokevirtual 49, 3) := by decide +kernel
theorem d_X8_number_97 : decode (yB m_X8_number) 97 = .ok (.pop, 1) := by decide +kernel
theorem d_X8_number_98 : decode (yB m_X8_number) 98 = .ok (.iconst (-1), 1) := by decide +kernel
theorem d_X8_number_99 : decode (yB m_X8_number) 99 = .ok (.ireturn, 1) := by decide +kernel
theorem d_X8_number_100 : decode (yB m_X8_number) 100 = .ok (.iload 4, 2) := by decide +kernel
theorem d_X8_number_102 : decode (yB m_X8_number) 102 = .ok (.iload_n 1, 1) := by decide +kernel
theorem d_X8_number_103 : decode (yB m_X8_number) 103 = .ok (.if_icmp .lt 9, 3) := by decide +kernel
theorem d_X8_number_106 : decode (yB m_X8_number) 106 = .ok (.iload 4, 2) := by decide +kernel
theorem d_X8_number_108 : decode (yB m_X8_number) 108 = .ok (.iload_n 2, 1) := by decide +kernel
theorem d_X8_number_109 : decode (yB m_X8_number) 109 = .ok (.if_icmp .le 12, 3) := by decide +kernel
theorem d_X8_number_112 : decode (yB m_X8_number) 112 = .ok (.aload_n 0, 1) := by decide +kernel
theorem d_X8_number_113 : decode (yB m_X8_number) 113 = .ok (.iconst 2, 1) := by decide +kernel
theorem d_X8_number_114 : decode (yB m_X8_number) 114 = .ok (.iload_n 3, 1) := by decide +kernel
theorem d_X8_number_115 : decode (yB m_X8_number) 115 = .ok (.invokevirtual 49, 3) := by decide +kernel
theorem d_X8_number_118 : decode (yB m_X8_number) 118 = .ok (.pop, 1) := by decide +kernel
theorem d_X8_number_119 : decode (yB m_X8_number) 119 = .ok (.iconst (-1), 1) := by decide +kernel
theorem d_X8_number_120 : decode (yB m_X8_number) 120 = .ok (.ireturn, 1) := by decide +kernel
theorem d_X8_number_121 : decode (yB m_X8_number) 121 = .ok (.iload 4, 2) := by decide +kernel
theorem d_X8_number_123 : decode (yB m_X8_number) 123 = .ok (.ireturn, 1) := by decide +kernel
def fn_X8_number_112 (v1 : Int32) (v2 : Int32) (v3 : Int32) (D : zD) : Option (Int32 × zD) := (fn_X8_blame (2 : Int32) v3 D).bind fun q5 => (some ((-1 : Int32), q5.2))
def fn_X8_number_83 (v1 : Int32) (v2 : Int32) (v3 : Int32) (v4 : Int32) (D : zD) : Option (Int32 × zD) := (if (gI D 2 2) = v3 then ((fn_X8_blame (1 : Int32) v3 D).bind fun q7 => (some ((-1 : Int32), q7.2))) else ((if v4 < v1 then ((fn_X8_number_112 v1 v2 v3 D)) else ((if v4 ≤ v2 then ((some (v4, D))) else ((fn_X8_number_112 v1 v2 v3 D)))))))
def fn_X8_number_8 (v1 : Int32) (v2 : Int32) : Nat → Int32 → Int32 → zD → Option (Int32 × zD)
  | 0, _, _, _ => none
  | n + 1, v3, v4, D => (if (gI D 2 1) ≤ (gI D 2 2) then ((fn_X8_number_83 v1 v2 v3 v4 D)) else ((fn_X8_byteAt (gI D 2 2) D).bind fun x8 => (if x8 < (48 : Int32) then ((fn_X8_number_83 v1 v2 v3 v4 D)) else ((fn_X8_byteAt (gI D 2 2) D).bind fun x10 => (if (57 : Int32) < x10 then ((fn_X8_number_83 v1 v2 v3 v4 D)) else ((fn_X8_byteAt (gI D 2 2) D).bind fun x12 => zlet (zmn (1000 : Int32) (((v4 * (10 : Int32)) + x12) - (48 : Int32))) fun x13 => zlet (sI D 2 2 ((gI D 2 2) + (1 : Int32))) fun D14 => ((fn_X8_number_8 v1 v2 n) v3 x13 D14)))))))
def fn_X8_number (v1 : Int32) (v2 : Int32) (D : zD) : Option (Int32 × zD) := (fn_X8_next D).bind fun q1 => (fn_X8_number_8 v1 v2 zFU q1.1 (0 : Int32) q1.2)
theorem s_X8_number_112 {X : zX} {Sh : zSh} {d : Nat} (hst : (zl X).stackTraces = false) (h0 : zSh0 Sh) (hd : 1 ≤ d) {v1 : Int32} {v2 : Int32} (v3 : Int32) (D : zD)  : Rn X m_X8_number (d + 1) 112 [(0, .ref 2), (3, .int v3)] [] (Sh, D) ((oI Sh) (fn_X8_number_112 v1 v2 v3 D)) := by
  rw [fn_X8_number_112]
  refine r_aload_n (pc := 112) 0 d_X8_number_112 rfl rfl ?_
  refine r_iconst (pc := 113) (2 : Int32) d_X8_number_113 rfl ?_
  refine r_iload_n (pc := 114) 1 d_X8_number_114 rfl rfl ?_
  refine q_cI (f := (oI Sh)) (av := [.ref 2, .int (2 : Int32), .int v3]) (st := []) (z_runV ck_X8_blame rfl ml_X8_49 ci_X8_blame cv_X8_blame (K_2 h0) (ci := 8) rfl rfl (Nat.le_of_ble_eq_true rfl) d_X8_number_115) (s_X8_blame hst h0 (by omega)) kp_I (fun q5 _ => ?_)
  refine r_pop (pc := 118) d_X8_number_118 rfl ?_
  refine r_iconst (pc := 119) (-1 : Int32) d_X8_number_119 rfl ?_
  exact r_iret (pc := 120) rfl d_X8_number_120
theorem s_X8_number_83 {X : zX} {Sh : zSh} {d : Nat} (hst : (zl X).stackTraces = false) (h0 : zSh0 Sh) (hd : 1 ≤ d) {v1 : Int32} {v2 : Int32} (v3 : Int32) (v4 : Int32) (D : zD)  : Rn X m_X8_number (d + 1) 83 [(0, .ref 2), (1, .int v1), (2, .int v2), (3, .int v3), (4, .int v4)] [] (Sh, D) ((oI Sh) (fn_X8_number_83 v1 v2 v3 v4 D)) := by
  rw [fn_X8_number_83]
  refine r_aload_n (pc := 83) 0 d_X8_number_83 rfl rfl ?_
  refine q_gI (pc := 84) g_X8_31 (K_2 h0) rfl d_X8_number_84 ?_
  refine r_iload_n (pc := 87) 3 d_X8_number_87 rfl rfl ?_
  refine r_icmp_ne (f := (oI Sh)) (pc := 88) 100 d_X8_number_88 (by decide) (fun c3 => ?_) (fun c3 => ?_)
  · refine r_iload (pc := 100) 4 d_X8_number_100 rfl ?_
    refine r_iload_n (pc := 102) 1 d_X8_number_102 rfl rfl ?_
    refine r_icmp_lt (f := (oI Sh)) (pc := 103) 112 d_X8_number_103 (by decide) (fun c4 => ?_) (fun c4 => ?_)
    · refine r_pick [0, 3] (ls' := [(0, .ref 2), (3, .int v3)]) rfl ?_
      exact s_X8_number_112 hst h0 hd v3 D
    · refine r_iload (pc := 106) 4 d_X8_number_106 rfl ?_
      refine r_iload_n (pc := 108) 2 d_X8_number_108 rfl rfl ?_
      refine r_icmp_le (f := (oI Sh)) (pc := 109) 121 d_X8_number_109 (by decide) (fun c6 => ?_) (fun c6 => ?_)
      · refine r_iload (pc := 121) 4 d_X8_number_121 rfl ?_
        exact r_iret (pc := 123) rfl d_X8_number_123
      · refine r_pick [0, 3] (ls' := [(0, .ref 2), (3, .int v3)]) rfl ?_
        exact s_X8_number_112 hst h0 hd v3 D
  · refine r_aload_n (pc := 91) 0 d_X8_number_91 rfl rfl ?_
    refine r_iconst (pc := 92) (1 : Int32) d_X8_number_92 rfl ?_
    refine r_iload_n (pc := 93) 3 d_X8_number_93 rfl rfl ?_
    refine q_cI (f := (oI Sh)) (av := [.ref 2, .int (1 : Int32), .int v3]) (st := []) (z_runV ck_X8_blame rfl ml_X8_49 ci_X8_blame cv_X8_blame (K_2 h0) (ci := 8) rfl rfl (Nat.le_of_ble_eq_true rfl) d_X8_number_94) (s_X8_blame hst h0 (by omega)) kp_I (fun q7 _ => ?_)
    refine r_pop (pc := 97) d_X8_number_97 rfl ?_
    refine r_iconst (pc := 98) (-1 : Int32) d_X8_number_98 rfl ?_
    exact r_iret (pc := 99) rfl d_X8_number_99
theorem s_X8_number_8 {X : zX} {Sh : zSh} {d : Nat} (hst : (zl X).stackTraces = false) (h0 : zSh0 Sh) (hd : 1 ≤ d) {v1 : Int32} {v2 : Int32} : ∀ (n : Nat) (v3 : Int32) (v4 : Int32) (D : zD) , Rn X m_X8_number (d + 1) 8 [(0, .ref 2), (1, .int v1), (2, .int v2), (3, .int v3), (4, .int v4)] [] (Sh, D) ((oI Sh) (fn_X8_number_8 v1 v2 n v3 v4 D)) := by
  intro n
  induction n with
  | zero => intro v3 v4 D; exact Rn_none rfl
  | succ n hk8 =>
    intro v3 v4 D
    rw [fn_X8_number_8]
    refine r_aload_n (pc := 8) 0 d_X8_number_8 rfl rfl ?_
    refine q_gI (pc := 9) g_X8_31 (K_2 h0) rfl d_X8_number_9 ?_
    refine r_aload_n (pc := 12) 0 d_X8_number_12 rfl rfl ?_
    refine q_gI (pc := 13) g_X8_28 (K_2 h0) rfl d_X8_number_13 ?_
    refine r_icmp_ge (f := (oI Sh)) (pc := 16) 83 d_X8_number_16 (by decide) (fun c2 => ?_) (fun c2 => ?_)
    · refine r_pick [0, 1, 2, 3, 4] (ls' := [(0, .ref 2), (1, .int v1), (2, .int v2), (3, .int v3), (4, .int v4)]) rfl ?_
      exact s_X8_number_83 hst h0 hd v3 v4 D
    · refine r_aload_n (pc := 19) 0 d_X8_number_19 rfl rfl ?_
      refine r_aload_n (pc := 20) 0 d_X8_number_20 rfl rfl ?_
      refine q_gI (pc := 21) g_X8_31 (K_2 h0) rfl d_X8_number_21 ?_
      refine q_cP (f := (oI Sh)) (av := [.ref 2, .int (gI D 2 2)]) (st := []) (z_runV ck_X8_byteAt rfl ml_X8_41 ci_X8_byteAt cv_X8_byteAt (K_2 h0) (ci := 8) rfl rfl (Nat.le_of_ble_eq_true rfl) d_X8_number_24) (s_X8_byteAt hst h0 (by omega)) kp_I (fun x8 _ => ?_)
      refine r_bipush (pc := 27) (48 : Int32) d_X8_number_27 rfl ?_
      refine r_icmp_lt (f := (oI Sh)) (pc := 29) 83 d_X8_number_29 (by decide) (fun c9 => ?_) (fun c9 => ?_)
      · refine r_pick [0, 1, 2, 3, 4] (ls' := [(0, .ref 2), (1, .int v1), (2, .int v2), (3, .int v3), (4, .int v4)]) rfl ?_
        exact s_X8_number_83 hst h0 hd v3 v4 D
      · refine r_aload_n (pc := 32) 0 d_X8_number_32 rfl rfl ?_
        refine r_aload_n (pc := 33) 0 d_X8_number_33 rfl rfl ?_
        refine q_gI (pc := 34) g_X8_31 (K_2 h0) rfl d_X8_number_34 ?_
        refine q_cP (f := (oI Sh)) (av := [.ref 2, .int (gI D 2 2)]) (st := []) (z_runV ck_X8_byteAt rfl ml_X8_41 ci_X8_byteAt cv_X8_byteAt (K_2 h0) (ci := 8) rfl rfl (Nat.le_of_ble_eq_true rfl) d_X8_number_37) (s_X8_byteAt hst h0 (by omega)) kp_I (fun x10 _ => ?_)
        refine r_bipush (pc := 40) (57 : Int32) d_X8_number_40 rfl ?_
        refine r_icmp_gt (f := (oI Sh)) (pc := 42) 83 d_X8_number_42 (by decide) (fun c11 => ?_) (fun c11 => ?_)
        · refine r_pick [0, 1, 2, 3, 4] (ls' := [(0, .ref 2), (1, .int v1), (2, .int v2), (3, .int v3), (4, .int v4)]) rfl ?_
          exact s_X8_number_83 hst h0 hd v3 v4 D
        · refine r_sipush (pc := 45) (1000 : Int32) d_X8_number_45 rfl ?_
          refine r_iload (pc := 48) 4 d_X8_number_48 rfl ?_
          refine r_bipush (pc := 50) (10 : Int32) d_X8_number_50 rfl ?_
          refine r_imul (pc := 52) d_X8_number_52 ?_
          refine r_aload_n (pc := 53) 0 d_X8_number_53 rfl rfl ?_
          refine r_aload_n (pc := 54) 0 d_X8_number_54 rfl rfl ?_
          refine q_gI (pc := 55) g_X8_31 (K_2 h0) rfl d_X8_number_55 ?_
          refine q_cP (f := (oI Sh)) (av := [.ref 2, .int (gI D 2 2)]) (st := [.int (v4 * (10 : Int32)), .int (1000 : Int32)]) (z_runV ck_X8_byteAt rfl ml_X8_41 ci_X8_byteAt cv_X8_byteAt (K_2 h0) (ci := 8) rfl rfl (Nat.le_of_ble_eq_true rfl) d_X8_number_58) (s_X8_byteAt hst h0 (by omega)) kp_I (fun x12 _ => ?_)
          refine r_iadd (pc := 61) d_X8_number_61 ?_
          refine r_bipush (pc := 62) (48 : Int32) d_X8_number_62 rfl ?_
          refine r_isub (pc := 64) d_X8_number_64 ?_
          refine r_mmin (pc := 65) ml_X8_19 (by omega) (Nat.le_of_ble_eq_true rfl) d_X8_number_65 ?_
          refine r_leti (f := (oI Sh)) (fun x13 => ?_)
          refine r_istore (pc := 68) (ls' := [(4, .int x13), (0, .ref 2), (1, .int v1), (2, .int v2), (3, .int v3)]) d_X8_number_68 (Nat.le_of_ble_eq_true rfl) rfl ?_
          refine r_aload_n (pc := 70) 1 d_X8_number_70 rfl rfl ?_
          refine r_dup (pc := 71) d_X8_number_71 rfl ?_
          refine q_gI (pc := 72) g_X8_31 (K_2 h0) rfl d_X8_number_72 ?_
          refine r_iconst (pc := 75) (1 : Int32) d_X8_number_75 rfl ?_
          refine r_iadd (pc := 76) d_X8_number_76 ?_
          refine r_putI (pc := 77) p_X8_31 (K_2 h0) rfl (Or.inl rfl) d_X8_number_77 ?_
          refine r_letD (f := (oI Sh)) (fun D14 => ?_)
          refine r_goto (pc := 80) 8 d_X8_number_80 (by decide) ?_
          refine r_pick [1, 2, 3, 4, 0] (ls' := [(0, .ref 2), (1, .int v1), (2, .int v2), (3, .int v3), (4, .int x13)]) rfl ?_
          exact hk8 v3 x13 D14 
theorem s_X8_number {X : zX} {Sh : zSh} {d : Nat} (hst : (zl X).stackTraces = false) (h0 : zSh0 Sh) (hd : 2 ≤ d) {v1 : Int32} {v2 : Int32} {D : zD} : Sd X m_X8_number d [.ref 2, .int v1, .int v2] (Sh, D) ((oI Sh) (fn_X8_number v1 v2 D)) := by
  obtain ⟨d, rfl⟩ : ∃ e, d = e + 1 := ⟨d - 1, by omega⟩
  replace hd : 1 ≤ d := by omega
  refine z_body ck_X8_number rfl (Nat.le_of_ble_eq_true rfl) rfl hst ?_
  rw [fn_X8_number]
  show Rn X m_X8_number (d + 1) 0 [(0, .ref 2), (1, .int v1), (2, .int v2)] [] (Sh, D) _
  refine r_aload_n (pc := 0) 0 d_X8_number_0 rfl rfl ?_
  refine q_cI (f := (oI Sh)) (av := [.ref 2]) (st := []) (z_runV ck_X8_next rfl ml_X8_37 ci_X8_next cv_X8_next (K_2 h0) (ci := 8) rfl rfl (Nat.le_of_ble_eq_true rfl) d_X8_number_1) (s_X8_next hst h0 (by omega)) kp_I (fun q1 _ => ?_)
  refine r_istore_n (pc := 4) (ls' := [(3, .int q1.1), (0, .ref 2), (1, .int v1), (2, .int v2)]) d_X8_number_4 rfl (Nat.le_of_ble_eq_true rfl) rfl ?_
  refine r_iconst (pc := 5) (0 : Int32) d_X8_number_5 rfl ?_
  refine r_istore (pc := 6) (ls' := [(4, .int (0 : Int32)), (3, .int q1.1), (0, .ref 2), (1, .int v1), (2, .int v2)]) d_X8_number_6 (Nat.le_of_ble_eq_true rfl) rfl ?_
  refine r_pick [2, 3, 4, 1, 0] (ls' := [(0, .ref 2), (1, .int v1), (2, .int v2), (3, .int q1.1), (4, .int (0 : Int32))]) rfl ?_
  exact s_X8_number_8 hst h0 hd zFU  q1.1 (0 : Int32) q1.2

