/-! CoveredSigns$RuleText.at -/
theorem d_X7_at_0 : decode (yB m_X7_at) 0 = .ok (.iload_n 1, 1) := by decide +kernel
theorem d_X7_at_1 : decode (yB m_X7_at) 1 = .ok (.ifCond .lt 21, 3) := by decide +kernel
theorem d_X7_at_4 : decode (yB m_X7_at) 4 = .ok (.iload_n 1, 1) := by decide +kernel
theorem d_X7_at_5 : decode (yB m_X7_at) 5 = .ok (.aload_n 0, 1) := by decide +kernel
theorem d_X7_at_6 : decode (yB m_X7_at) 6 = .ok (.getfield 13, 3) := by decide +kernel
theorem d_X7_at_9 : decode (yB m_X7_at) 9 = .ok (.arraylength, 1) := by decide +kernel
theorem d_X7_at_10 : decode (yB m_X7_at) 10 = .ok (.if_icmp .ge 12, 3) := by decide +kernel
theorem d_X7_at_13 : decode (yB m_X7_at) 13 = .ok (.aload_n 0, 1) := by decide +kernel
theorem d_X7_at_14 : decode (yB m_X7_at) 14 = .ok (.getfield 13, 3) := by decide +kernel
theorem d_X7_at_17 : decode (yB m_X7_at) 17 = .ok (.iload_n 1, 1) := by decide +kernel
theorem d_X7_at_18 : decode (yB m_X7_at) 18 = .ok (.aaload, 1) := by decide +kernel
theorem d_X7_at_19 : decode (yB m_X7_at) 19 = .ok (.ifnonnull 8, 3) := by decide +kernel
theorem d_X7_at_22 : decode (yB m_X7_at) 22 = .ok (.aload_n 0, 1) := by decide +kernel
theorem d_X7_at_23 : decode (yB m_X7_at) 23 = .ok (.getfield 18, 3) := by decide +kernel
theorem d_X7_at_26 : decode (yB m_X7_at) 26 = .ok (.areturn, 1) := by decide +kernel
theorem d_X7_at_27 : decode (yB m_X7_at) 27 = .ok (.aload_n 0, 1) := by decide +kernel
theorem d_X7_at_28 : decode (yB m_X7_at) 28 = .ok (.getfield 13, 3) := by decide +kernel
theorem d_X7_at_31 : decode (yB m_X7_at) 31 = .ok (.iload_n 1, 1) := by decide +kernel
theorem d_X7_at_32 : decode (yB m_X7_at) 32 = .ok (.aaload, 1) := by decide +kernel
theorem d_X7_at_33 : decode (yB m_X7_at) 33 = .ok (.areturn, 1) := by decide +kernel
def fn_X7_at (v1 : Int32) (D : zD) : Option Nat := (if v1 < 0 then ((some 24)) else ((if (Int32.ofNat 15) ≤ v1 then ((some 24)) else (zck v1 15 <| zck v1 15 <| (some (27 + 2 * v1.toNatClampNeg))))))
theorem s_X7_at {X : zX} {Sh : zSh} {d : Nat} (hst : (zl X).stackTraces = false) (h0 : zSh0 Sh) (hd : 1 ≤ d) {v1 : Int32} {D : zD} : Sd X m_X7_at d [.ref 22, .int v1] (Sh, D) ((oA Sh D) (fn_X7_at v1 D)) := by
  obtain ⟨d, rfl⟩ : ∃ e, d = e + 1 := ⟨d - 1, by omega⟩
  replace hd : 0 ≤ d := by omega
  refine z_body ck_X7_at rfl (Nat.le_of_ble_eq_true rfl) rfl hst ?_
  rw [fn_X7_at]
  show Rn X m_X7_at (d + 1) 0 [(0, .ref 22), (1, .int v1)] [] (Sh, D) _
  refine r_iload_n (pc := 0) 1 d_X7_at_0 rfl rfl ?_
  refine r_if_lt (f := (oA Sh D)) (pc := 1) 22 d_X7_at_1 (by decide) (fun c1 => ?_) (fun c1 => ?_)
  · refine r_aload_n (pc := 22) 0 d_X7_at_22 rfl rfl ?_
    refine r_getR (pc := 23) g_X7_18 (K_22 h0) rfl (R_22_2 h0) d_X7_at_23 ?_
    exact r_aret (pc := 26) rfl (Or.inl ⟨_, rfl⟩) d_X7_at_26
  · refine r_iload_n (pc := 4) 1 d_X7_at_4 rfl rfl ?_
    refine r_aload_n (pc := 5) 0 d_X7_at_5 rfl rfl ?_
    refine r_getR (pc := 6) g_X7_13 (K_22 h0) rfl (R_22_1 h0) d_X7_at_6 ?_
    refine r_alen (pc := 9) (K_23 h0) (by decide) d_X7_at_9 ?_
    refine r_icmp_ge (f := (oA Sh D)) (pc := 10) 22 d_X7_at_10 (by decide) (fun c2 => ?_) (fun c2 => ?_)
    · refine r_aload_n (pc := 22) 0 d_X7_at_22 rfl rfl ?_
      refine r_getR (pc := 23) g_X7_18 (K_22 h0) rfl (R_22_2 h0) d_X7_at_23 ?_
      exact r_aret (pc := 26) rfl (Or.inl ⟨_, rfl⟩) d_X7_at_26
    · refine r_aload_n (pc := 13) 0 d_X7_at_13 rfl rfl ?_
      refine r_getR (pc := 14) g_X7_13 (K_22 h0) rfl (R_22_1 h0) d_X7_at_14 ?_
      refine r_iload_n (pc := 17) 1 d_X7_at_17 rfl rfl ?_
      refine r_ck (f := (oA Sh D)) rfl (fun hc3 => ?_)
      refine q_aald (pc := 18) (j := v1.toNatClampNeg) (K_23 h0) (Or.inr (Or.inr ⟨rfl, rfl⟩)) hc3 rfl (RW_23 h0 _ (z_lt hc3)) d_X7_at_18 ?_
      refine r_nonnull (pc := 19) 27 d_X7_at_19 (by decide) ?_
      refine r_aload_n (pc := 27) 0 d_X7_at_27 rfl rfl ?_
      refine r_getR (pc := 28) g_X7_13 (K_22 h0) rfl (R_22_1 h0) d_X7_at_28 ?_
      refine r_iload_n (pc := 31) 1 d_X7_at_31 rfl rfl ?_
      refine r_ck (f := (oA Sh D)) rfl (fun hc4 => ?_)
      refine q_aald (pc := 32) (j := v1.toNatClampNeg) (K_23 h0) (Or.inr (Or.inr ⟨rfl, rfl⟩)) hc4 rfl (RW_23 h0 _ (z_lt hc4)) d_X7_at_32 ?_
      exact r_aret (pc := 33) rfl (Or.inl ⟨_, rfl⟩) d_X7_at_33
theorem al_X7_at {v1 : Int32} {D : zD} {o : Nat} (h : fn_X7_at v1 D = some o) : o ∈ zI_3 := by
  rw [fn_X7_at] at h
  split at h
  · cases h; exact I_24
  · split at h
    · cases h; exact I_24
    · by_cases hc : v1 < 0 ∨ 15 ≤ v1.toNatClampNeg
      · rw [zck, if_pos hc] at h; cases h
      · rw [zck, if_neg hc, zck, if_neg hc] at h
        cases h
        exact SI_23 _ (z_lt hc)
/-! CoveredSigns$RuleText.result -/
theorem d_X7_result_0 : decode (yB m_X7_result) 0 = .ok (.aload_n 0, 1) := by decide +kernel
theorem d_X7_result_1 : decode (yB m_X7_result) 1 = .ok (.iconst 0, 1) := by decide +kernel
theorem d_X7_result_2 : decode (yB m_X7_result) 2 = .ok (.invokevirtual 30, 3) := by decide +kernel
theorem d_X7_result_5 : decode (yB m_X7_result) 5 = .ok (.areturn, 1) := by decide +kernel
def fn_X7_result (D : zD) : Option Nat := (fn_X7_at (0 : Int32) D).bind fun o1 => (some o1)
theorem s_X7_result {X : zX} {Sh : zSh} {d : Nat} (hst : (zl X).stackTraces = false) (h0 : zSh0 Sh) (hd : 2 ≤ d)  {D : zD} : Sd X m_X7_result d [.ref 22] (Sh, D) ((oA Sh D) (fn_X7_result D)) := by
  obtain ⟨d, rfl⟩ : ∃ e, d = e + 1 := ⟨d - 1, by omega⟩
  replace hd : 1 ≤ d := by omega
  refine z_body ck_X7_result rfl (Nat.le_of_ble_eq_true rfl) rfl hst ?_
  rw [fn_X7_result]
  show Rn X m_X7_result (d + 1) 0 [(0, .ref 22)] [] (Sh, D) _
  refine r_aload_n (pc := 0) 0 d_X7_result_0 rfl rfl ?_
  refine r_iconst (pc := 1) (0 : Int32) d_X7_result_1 rfl ?_
  refine q_cA (f := (oA Sh D)) (av := [.ref 22, .int (0 : Int32)]) (st := []) (z_runV ck_X7_at rfl ml_X7_30 ci_X7_at cv_X7_at (K_22 h0) (ci := 7) rfl rfl (Nat.le_of_ble_eq_true rfl) d_X7_result_2) (s_X7_at hst h0 (by omega)) kp_A (fun o1 ha2 => ?_)
  exact r_aret (pc := 5) rfl (Or.inl ⟨_, rfl⟩) d_X7_result_5
theorem al_X7_result {D : zD} {o : Nat} (h : fn_X7_result D = some o) : o ∈ zI_3 := by
  rw [fn_X7_result] at h
  cases h1 : fn_X7_at (0 : Int32) D with
  | none => rw [h1] at h; cases h
  | some q => rw [h1] at h; cases h; exact al_X7_at h1
/-! CoveredSigns$RuleText.any -/
theorem d_X7_any_0 : decode (yB m_X7_any) 0 = .ok (.aload_n 0, 1) := by decide +kernel
theorem d_X7_any_1 : decode (yB m_X7_any) 1 = .ok (.getfield 26, 3) := by decide +kernel
theorem d_X7_any_4 : decode (yB m_X7_any) 4 = .ok (.iconst 0, 1) := by decide +kernel
theorem d_X7_any_5 : decode (yB m_X7_any) 5 = .ok (.iconst 3, 1) := by decide +kernel
theorem d_X7_any_6 : decode (yB m_X7_any) 6 = .ok (.invokevirtual 119, 3) := by decide +kernel
theorem d_X7_any_9 : decode (yB m_X7_any) 9 = .ok (.istore_n 2, 1) := by decide +kernel
theorem d_X7_any_10 : decode (yB m_X7_any) 10 = .ok (.iload_n 2, 1) := by decide +kernel
theorem d_X7_any_11 : decode (yB m_X7_any) 11 = .ok (.iconst (-1), 1) := by decide +kernel
theorem d_X7_any_12 : decode (yB m_X7_any) 12 = .ok (.if_icmp .ne 5, 3) := by decide +kernel
theorem d_X7_any_15 : decode (yB m_X7_any) 15 = .ok (.iconst 0, 1) := by decide +kernel
theorem d_X7_any_16 : decode (yB m_X7_any) 16 = .ok (.ireturn, 1) := by decide +kernel
theorem d_X7_any_17 : decode (yB m_X7_any) 17 = .ok (.aload_n 1, 1) := by decide +kernel
theorem d_X7_any_18 : decode (yB m_X7_any) 18 = .ok (.iconst 0, 1) := by decide +kernel
theorem d_X7_any_19 : decode (yB m_X7_any) 19 = .ok (.putfield 136, 3) := by decide +kernel
theorem d_X7_any_22 : decode (yB m_X7_any) 22 = .ok (.aload_n 0, 1) := by decide +kernel
theorem d_X7_any_23 : decode (yB m_X7_any) 23 = .ok (.getfield 34, 3) := by decide +kernel
theorem d_X7_any_26 : decode (yB m_X7_any) 26 = .ok (.aload_n 0, 1) := by decide +kernel
theorem d_X7_any_27 : decode (yB m_X7_any) 27 = .ok (.getfield 38, 3) := by decide +kernel
theorem d_X7_any_30 : decode (yB m_X7_any) 30 = .ok (.imul, 1) := by decide +kernel
theorem d_X7_any_31 : decode (yB m_X7_any) 31 = .ok (.istore_n 3, 1) := by decide +kernel
theorem d_X7_any_32 : decode (yB m_X7_any) 32 = .ok (.iconst 0, 1) := by decide +kernel
theorem d_X7_any_33 : decode (yB m_X7_any) 33 = .ok (.istore 4, 2) := by decide +kernel
theorem d_X7_any_35 : decode (yB m_X7_any) 35 = .ok (.iload 4, 2) := by decide +kernel
theorem d_X7_any_37 : decode (yB m_X7_any) 37 = .ok (.iload_n 2, 1) := by decide +kernel
theorem d_X7_any_38 : decode (yB m_X7_any) 38 = .ok (.ifCond .le 7, 3) := by decide +kernel
theorem d_X7_any_41 : decode (yB m_X7_any) 41 = .ok (.iload_n 3, 1) := by decide +kernel
theorem d_X7_any_42 : decode (yB m_X7_any) 42 = .ok (.goto 4, 3) := by decide +kernel
theorem d_X7_any_45 : decode (yB m_X7_any) 45 = .ok (.iconst 1, 1) := by decide +kernel
theorem d_X7_any_46 : decode (yB m_X7_any) 46 = .ok (.if_icmp .ge 146, 3) := by decide +kernel
theorem d_X7_any_49 : decode (yB m_X7_any) 49 = .ok (.iload_n 2, 1) := by decide +kernel
theorem d_X7_any_50 : decode (yB m_X7_any) 50 = .ok (.iconst 1, 1) := by decide +kernel
theorem d_X7_any_51 : decode (yB m_X7_any) 51 = .ok (.if_icmp .le 10, 3) := by decide +kernel
theorem d_X7_any_54 : decode (yB m_X7_any) 54 = .ok (.iload 4, 2) := by decide +kernel
theorem d_X7_any_56 : decode (yB m_X7_any) 56 = .ok (.iconst 1, 1) := by decide +kernel
theorem d_X7_any_57 : decode (yB m_X7_any) 57 = .ok (.iadd, 1) := by decide +kernel
theorem d_X7_any_58 : decode (yB m_X7_any) 58 = .ok (.goto 4, 3) := by decide +kernel
theorem d_X7_any_61 : decode (yB m_X7_any) 61 = .ok (.iconst 0, 1) := by decide +kernel
theorem d_X7_any_62 : decode (yB m_X7_any) 62 = .ok (.istore 5, 2) := by decide +kernel
theorem d_X7_any_64 : decode (yB m_X7_any) 64 = .ok (.iload 5, 2) := by decide +kernel
theorem d_X7_any_66 : decode (yB m_X7_any) 66 = .ok (.iload_n 2, 1) := by decide +kernel
theorem d_X7_any_67 : decode (yB m_X7_any) 67 = .ok (.iconst 1, 1) := by decide +kernel
theorem d_X7_any_68 : decode (yB m_X7_any) 68 = .ok (.if_icmp .le 7, 3) := by decide +kernel
theorem d_X7_any_71 : decode (yB m_X7_any) 71 = .ok (.iload_n 3, 1) := by decide +kernel
theorem d_X7_any_72 : decode (yB m_X7_any) 72 = .ok (.goto 4, 3) := by decide +kernel
theorem d_X7_any_75 : decode (yB m_X7_any) 75 = .ok (.iconst 1, 1) := by decide +kernel
theorem d_X7_any_76 : decode (yB m_X7_any) 76 = .ok (.if_icmp .ge 110, 3) := by decide +kernel
theorem d_X7_any_79 : decode (yB m_X7_any) 79 = .ok (.iload_n 2, 1) := by decide +kernel
theorem d_X7_any_80 : decode (yB m_X7_any) 80 = .ok (.iconst 2, 1) := by decide +kernel
theorem d_X7_any_81 : decode (yB m_X7_any) 81 = .ok (.if_icmp .le 10, 3) := by decide +kernel
theorem d_X7_any_84 : decode (yB m_X7_any) 84 = .ok (.iload 5, 2) := by decide +kernel
theorem d_X7_any_86 : decode (yB m_X7_any) 86 = .ok (.iconst 1, 1) := by decide +kernel
theorem d_X7_any_87 : decode (yB m_X7_any) 87 = .ok (.iadd, 1) := by decide +kernel
theorem d_X7_any_88 : decode (yB m_X7_any) 88 = .ok (.goto 4, 3) := by decide +kernel
theorem d_X7_any_91 : decode (yB m_X7_any) 91 = .ok (.iconst 0, 1) := by decide +kernel
theorem d_X7_any_92 : decode (yB m_X7_any) 92 = .ok (.istore 6, 2) := by decide +kernel
theorem d_X7_any_94 : decode (yB m_X7_any) 94 = .ok (.iload 6, 2) := by decide +kernel
theorem d_X7_any_96 : decode (yB m_X7_any) 96 = .ok (.iload_n 2, 1) := by decide +kernel
theorem d_X7_any_97 : decode (yB m_X7_any) 97 = .ok (.iconst 2, 1) := by decide +kernel
theorem d_X7_any_98 : decode (yB m_X7_any) 98 = .ok (.if_icmp .le 7, 3) := by decide +kernel
theorem d_X7_any_101 : decode (yB m_X7_any) 101 = .ok (.iload_n 3, 1) := by decide +kernel
theorem d_X7_any_102 : decode (yB m_X7_any) 102 = .ok (.goto 4, 3) := by decide +kernel
theorem d_X7_any_105 : decode (yB m_X7_any) 105 = .ok (.iconst 1, 1) := by decide +kernel
theorem d_X7_any_106 : decode (yB m_X7_any) 106 = .ok (.if_icmp .ge 74, 3) := by decide +kernel
theorem d_X7_any_109 : decode (yB m_X7_any) 109 = .ok (.iload_n 2, 1) := by decide +kernel
theorem d_X7_any_110 : decode (yB m_X7_any) 110 = .ok (.ifCond .le 10, 3) := by decide +kernel
theorem d_X7_any_113 : decode (yB m_X7_any) 113 = .ok (.iconst 1, 1) := by decide +kernel
theorem d_X7_any_114 : decode (yB m_X7_any) 114 = .ok (.iload 4, 2) := by decide +kernel
theorem d_X7_any_116 : decode (yB m_X7_any) 116 = .ok (.ishl, 1) := by decide +kernel
theorem d_X7_any_117 : decode (yB m_X7_any) 117 = .ok (.goto 4, 3) := by decide +kernel
theorem d_X7_any_120 : decode (yB m_X7_any) 120 = .ok (.iconst 0, 1) := by decide +kernel
theorem d_X7_any_121 : decode (yB m_X7_any) 121 = .ok (.iload_n 2, 1) := by decide +kernel
theorem d_X7_any_122 : decode (yB m_X7_any) 122 = .ok (.iconst 1, 1) := by decide +kernel
theorem d_X7_any_123 : decode (yB m_X7_any) 123 = .ok (.if_icmp .le 10, 3) := by decide +kernel
theorem d_X7_any_126 : decode (yB m_X7_any) 126 = .ok (.iconst 1, 1) := by decide +kernel
theorem d_X7_any_127 : decode (yB m_X7_any) 127 = .ok (.iload 5, 2) := by decide +kernel
theorem d_X7_any_129 : decode (yB m_X7_any) 129 = .ok (.ishl, 1) := by decide +kernel
theorem d_X7_any_130 : decode (yB m_X7_any) 130 = .ok (.goto 4, 3) := by decide +kernel
theorem d_X7_any_133 : decode (yB m_X7_any) 133 = .ok (.iconst 0, 1) := by decide +kernel
theorem d_X7_any_134 : decode (yB m_X7_any) 134 = .ok (.ior, 1) := by decide +kernel
theorem d_X7_any_135 : decode (yB m_X7_any) 135 = .ok (.iload_n 2, 1) := by decide +kernel
theorem d_X7_any_136 : decode (yB m_X7_any) 136 = .ok (.iconst 2, 1) := by decide +kernel
theorem d_X7_any_137 : decode (yB m_X7_any) 137 = .ok (.if_icmp .le 10, 3) := by decide +kernel
theorem d_X7_any_140 : decode (yB m_X7_any) 140 = .ok (.iconst 1, 1) := by decide +kernel
theorem d_X7_any_141 : decode (yB m_X7_any) 141 = .ok (.iload 6, 2) := by decide +kernel
theorem d_X7_any_143 : decode (yB m_X7_any) 143 = .ok (.ishl, 1) := by decide +kernel
theorem d_X7_any_144 : decode (yB m_X7_any) 144 = .ok (.goto 4, 3) := by decide +kernel
theorem d_X7_any_147 : decode (yB m_X7_any) 147 = .ok (.iconst 0, 1) := by decide +kernel
theorem d_X7_any_148 : decode (yB m_X7_any) 148 = .ok (.ior, 1) := by decide +kernel
theorem d_X7_any_149 : decode (yB m_X7_any) 149 = .ok (.istore 7, 2) := by decide +kernel
theorem d_X7_any_151 : decode (yB m_X7_any) 151 = .ok (.aload_n 0, 1) := by decide +kernel
theorem d_X7_any_152 : decode (yB m_X7_any) 152 = .ok (.dup, 1) := by decide +kernel
theorem d_X7_any_153 : decode (yB m_X7_any) 153 = .ok (.getfield 41, 3) := by decide +kernel
theorem d_X7_any_156 : decode (yB m_X7_any) 156 = .ok (.aload_n 1, 1) := by decide +kernel
theorem d_X7_any_157 : decode (yB m_X7_any) 157 = .ok (.iload 7, 2) := by decide +kernel
theorem d_X7_any_159 : decode (yB m_X7_any) 159 = .ok (.invokevirtual 139, 3) := by decide +kernel
theorem d_X7_any_162 : decode (yB m_X7_any) 162 = .ok (.ifCond .ne 7, 3) := by decide +kernel
theorem d_X7_any_165 : decode (yB m_X7_any) 165 = .ok (.iconst 1, 1) := by decide +kernel
theorem d_X7_any_166 : decode (yB m_X7_any) 166 = .ok (.goto 4, 3) := by decide +kernel
theorem d_X7_any_169 : decode (yB m_X7_any) 169 = .ok (.iconst 0, 1) := by decide +kernel
theorem d_X7_any_170 : decode (yB m_X7_any) 170 = .ok (.ior, 1) := by decide +kernel
theorem d_X7_any_171 : decode (yB m_X7_any) 171 = .ok (.putfield 41, 3) := by decide +kernel
theorem d_X7_any_174 : decode (yB m_X7_any) 174 = .ok (.iinc 6 1, 3) := by decide +kernel
theorem d_X7_any_177 : decode (yB m_X7_any) 177 = .ok (.goto (-83), 3) := by decide +kernel
theorem d_X7_any_180 : decode (yB m_X7_any) 180 = .ok (.iinc 5 1, 3) := by decide +kernel
theorem d_X7_any_183 : decode (yB m_X7_any) 183 = .ok (.goto (-119), 3) := by decide +kernel
theorem d_X7_any_186 : decode (yB m_X7_any) 186 = .ok (.iinc 4 1, 3) := by decide +kernel
theorem d_X7_any_189 : decode (yB m_X7_any) 189 = .ok (.goto (-154), 3) := by decide +kernel
theorem d_X7_any_192 : decode (yB m_X7_any) 192 = .ok (.iconst 1, 1) := by decide +kernel
theorem d_X7_any_193 : decode (yB m_X7_any) 193 = .ok (.ireturn, 1) := by decide +kernel
def fn_X7_any_148 (a1 : Nat) (k94 : Int32 → Int32 → Int32 → Int32 → Int32 → zD → Option (Int32 × zD)) (v2 : Int32) (v3 : Int32) (v4 : Int32) (v5 : Int32) (v6 : Int32) (w0 : Int32) (w1 : Int32) (D : zD) : Option (Int32 × zD) := zlet (w0 ||| w1) fun x16 => (fn_X3_add a1 x16 D).bind fun q17 => (if q17.1 = 0 then (zcb ((gI D 22 6) ||| (1 : Int32)) <| zlet (sI q17.2 22 6 ((gI D 22 6) ||| (1 : Int32))) fun D22 => (k94 v2 v3 v4 v5 (v6 + (1 : Int32)) D22)) else (zcb ((gI D 22 6) ||| (0 : Int32)) <| zlet (sI q17.2 22 6 ((gI D 22 6) ||| (0 : Int32))) fun D20 => (k94 v2 v3 v4 v5 (v6 + (1 : Int32)) D20)))
def fn_X7_any_134 (a1 : Nat) (k94 : Int32 → Int32 → Int32 → Int32 → Int32 → zD → Option (Int32 × zD)) (v2 : Int32) (v3 : Int32) (v4 : Int32) (v5 : Int32) (v6 : Int32) (w0 : Int32) (w1 : Int32) (D : zD) : Option (Int32 × zD) := (if v2 ≤ (2 : Int32) then ((fn_X7_any_148 a1 k94 v2 v3 v4 v5 v6 (w0 ||| w1) (0 : Int32) D)) else ((fn_X7_any_148 a1 k94 v2 v3 v4 v5 v6 (w0 ||| w1) ((1 : Int32) <<< (v6 &&& 31)) D)))
def fn_X7_any_121 (a1 : Nat) (k94 : Int32 → Int32 → Int32 → Int32 → Int32 → zD → Option (Int32 × zD)) (v2 : Int32) (v3 : Int32) (v4 : Int32) (v5 : Int32) (v6 : Int32) (w0 : Int32) (D : zD) : Option (Int32 × zD) := (if v2 ≤ (1 : Int32) then ((fn_X7_any_134 a1 k94 v2 v3 v4 v5 v6 w0 (0 : Int32) D)) else ((fn_X7_any_134 a1 k94 v2 v3 v4 v5 v6 w0 ((1 : Int32) <<< (v5 &&& 31)) D)))
def fn_X7_any_106 (a1 : Nat) (k64 : Int32 → Int32 → Int32 → Int32 → zD → Option (Int32 × zD)) (k94 : Int32 → Int32 → Int32 → Int32 → Int32 → zD → Option (Int32 × zD)) (v2 : Int32) (v3 : Int32) (v4 : Int32) (v5 : Int32) (v6 : Int32) (w0 : Int32) (w1 : Int32) (D : zD) : Option (Int32 × zD) := (if w1 ≤ w0 then ((k64 v2 v3 v4 (v5 + (1 : Int32)) D)) else ((if v2 ≤ 0 then ((fn_X7_any_121 a1 k94 v2 v3 v4 v5 v6 (0 : Int32) D)) else ((fn_X7_any_121 a1 k94 v2 v3 v4 v5 v6 ((1 : Int32) <<< (v4 &&& 31)) D)))))
def fn_X7_any_94 (a1 : Nat) (k64 : Int32 → Int32 → Int32 → Int32 → zD → Option (Int32 × zD)) : Nat → Int32 → Int32 → Int32 → Int32 → Int32 → zD → Option (Int32 × zD)
  | 0, _, _, _, _, _, _ => none
  | n + 1, v2, v3, v4, v5, v6, D => (if v2 ≤ (2 : Int32) then ((fn_X7_any_106 a1 k64 (fn_X7_any_94 a1 k64 n) v2 v3 v4 v5 v6 v6 (1 : Int32) D)) else ((fn_X7_any_106 a1 k64 (fn_X7_any_94 a1 k64 n) v2 v3 v4 v5 v6 v6 v3 D)))
def fn_X7_any_76 (a1 : Nat) (k35 : Int32 → Int32 → Int32 → zD → Option (Int32 × zD)) (k64 : Int32 → Int32 → Int32 → Int32 → zD → Option (Int32 × zD)) (v2 : Int32) (v3 : Int32) (v4 : Int32) (v5 : Int32) (w0 : Int32) (w1 : Int32) (D : zD) : Option (Int32 × zD) := (if w1 ≤ w0 then ((k35 v2 v3 (v4 + (1 : Int32)) D)) else ((if v2 ≤ (2 : Int32) then ((fn_X7_any_94 a1 k64 zFU v2 v3 v4 v5 (0 : Int32) D)) else (zlet (v5 + (1 : Int32)) fun x23 => (fn_X7_any_94 a1 k64 zFU v2 v3 v4 v5 x23 D)))))
def fn_X7_any_64 (a1 : Nat) (k35 : Int32 → Int32 → Int32 → zD → Option (Int32 × zD)) : Nat → Int32 → Int32 → Int32 → Int32 → zD → Option (Int32 × zD)
  | 0, _, _, _, _, _ => none
  | n + 1, v2, v3, v4, v5, D => (if v2 ≤ (1 : Int32) then ((fn_X7_any_76 a1 k35 (fn_X7_any_64 a1 k35 n) v2 v3 v4 v5 v5 (1 : Int32) D)) else ((fn_X7_any_76 a1 k35 (fn_X7_any_64 a1 k35 n) v2 v3 v4 v5 v5 v3 D)))
def fn_X7_any_46 (a1 : Nat) (k35 : Int32 → Int32 → Int32 → zD → Option (Int32 × zD)) (v2 : Int32) (v3 : Int32) (v4 : Int32) (w0 : Int32) (w1 : Int32) (D : zD) : Option (Int32 × zD) := (if w1 ≤ w0 then ((some ((1 : Int32), D))) else ((if v2 ≤ (1 : Int32) then ((fn_X7_any_64 a1 k35 zFU v2 v3 v4 (0 : Int32) D)) else (zlet (v4 + (1 : Int32)) fun x24 => (fn_X7_any_64 a1 k35 zFU v2 v3 v4 x24 D)))))
def fn_X7_any_35 (a1 : Nat) : Nat → Int32 → Int32 → Int32 → zD → Option (Int32 × zD)
  | 0, _, _, _, _ => none
  | n + 1, v2, v3, v4, D => (if v2 ≤ 0 then ((fn_X7_any_46 a1 (fn_X7_any_35 a1 n) v2 v3 v4 v4 (1 : Int32) D)) else ((fn_X7_any_46 a1 (fn_X7_any_35 a1 n) v2 v3 v4 v4 v3 D)))
def fn_X7_any (a1 : Nat) (D : zD) : Option (Int32 × zD) := (fn_X8_number (0 : Int32) (3 : Int32) D).bind fun q1 => (if q1.1 = (-1 : Int32) then ((some ((0 : Int32), q1.2))) else (zlet (sI q1.2 a1 1 (0 : Int32)) fun D3 => zlet ((gI D3 22 4) * (gI D3 22 5)) fun x4 => (fn_X7_any_35 a1 zFU q1.1 x4 (0 : Int32) D3)))
theorem s_X7_any_148 {X : zX} {Sh : zSh} {d : Nat} (hst : (zl X).stackTraces = false) (h0 : zSh0 Sh) (hd : 2 ≤ d) {a1 : Nat} (h_a1 : a1 ∈ zI_3) (k94 : Int32 → Int32 → Int32 → Int32 → Int32 → zD → Option (Int32 × zD)) (hk94 : ∀ (v2 : Int32) (v3 : Int32) (v4 : Int32) (v5 : Int32) (v6 : Int32) (D : zD) , Rn X m_X7_any (d + 1) 94 [(0, .ref 22), (1, .ref a1), (2, .int v2), (3, .int v3), (4, .int v4), (5, .int v5), (6, .int v6)] [] (Sh, D) ((oI Sh) (k94 v2 v3 v4 v5 v6 D))) (v2 : Int32) (v3 : Int32) (v4 : Int32) (v5 : Int32) (v6 : Int32) (w0 : Int32) (w1 : Int32) (D : zD)  : Rn X m_X7_any (d + 1) 148 [(0, .ref 22), (1, .ref a1), (2, .int v2), (3, .int v3), (4, .int v4), (5, .int v5), (6, .int v6)] [.int w1, .int w0] (Sh, D) ((oI Sh) (fn_X7_any_148 a1 k94 v2 v3 v4 v5 v6 w0 w1 D)) := by
  rw [fn_X7_any_148]
  refine r_ior (pc := 148) d_X7_any_148 ?_
  refine r_leti (f := (oI Sh)) (fun x16 => ?_)
  refine r_istore (pc := 149) (ls' := [(7, .int x16), (0, .ref 22), (1, .ref a1), (2, .int v2), (3, .int v3), (4, .int v4), (5, .int v5), (6, .int v6)]) d_X7_any_149 (Nat.le_of_ble_eq_true rfl) rfl ?_
  refine r_aload_n (pc := 151) 1 d_X7_any_151 rfl rfl ?_
  refine r_dup (pc := 152) d_X7_any_152 rfl ?_
  refine q_gI (pc := 153) g_X7_41 (K_22 h0) rfl d_X7_any_153 ?_
  refine r_aload_n (pc := 156) 2 d_X7_any_156 rfl rfl ?_
  refine r_iload (pc := 157) 0 d_X7_any_157 rfl ?_
  refine q_cI (f := (oI Sh)) (av := [.ref a1, .int x16]) (st := [.int (gI D 22 6), .ref 22]) (z_runV ck_X3_add rfl ml_X7_139 ci_X3_add cv_X3_add (LK_3 h0 h_a1) (ci := 3) rfl rfl (Nat.le_of_ble_eq_true rfl) d_X7_any_159) (s_X3_add hst h0 (by omega) h_a1) kp_I (fun q17 _ => ?_)
  refine r_if_ne (f := (oI Sh)) (pc := 162) 169 d_X7_any_162 (by decide) (fun c18 => ?_) (fun c18 => ?_)
  · refine r_iconst (pc := 169) (0 : Int32) d_X7_any_169 rfl ?_
    refine r_ior (pc := 170) d_X7_any_170 ?_
    refine r_cb (f := (oI Sh)) rfl (fun hb19 => ?_)
    refine r_putI (pc := 171) p_X7_41 (K_22 h0) rfl (Or.inr ⟨rfl, hb19⟩) d_X7_any_171 ?_
    refine r_letD (f := (oI Sh)) (fun D20 => ?_)
    refine r_iinc (pc := 174) ((v6 + (1 : Int32))) 7 (ls' := [(6, .int (v6 + (1 : Int32))), (7, .int x16), (0, .ref 22), (1, .ref a1), (2, .int v2), (3, .int v3), (4, .int v4), (5, .int v5)]) d_X7_any_174 rfl rfl (Nat.le_of_ble_eq_true rfl) rfl ?_
    refine r_goto (pc := 177) 94 d_X7_any_177 (by decide) ?_
    refine r_pick [2, 3, 4, 5, 6, 7, 0] (ls' := [(0, .ref 22), (1, .ref a1), (2, .int v2), (3, .int v3), (4, .int v4), (5, .int v5), (6, .int (v6 + (1 : Int32)))]) rfl ?_
    exact hk94 v2 v3 v4 v5 (v6 + (1 : Int32)) D20 
  · refine r_iconst (pc := 165) (1 : Int32) d_X7_any_165 rfl ?_
    refine r_goto (pc := 166) 170 d_X7_any_166 (by decide) ?_
    refine r_ior (pc := 170) d_X7_any_170 ?_
    refine r_cb (f := (oI Sh)) rfl (fun hb21 => ?_)
    refine r_putI (pc := 171) p_X7_41 (K_22 h0) rfl (Or.inr ⟨rfl, hb21⟩) d_X7_any_171 ?_
    refine r_letD (f := (oI Sh)) (fun D22 => ?_)
    refine r_iinc (pc := 174) ((v6 + (1 : Int32))) 7 (ls' := [(6, .int (v6 + (1 : Int32))), (7, .int x16), (0, .ref 22), (1, .ref a1), (2, .int v2), (3, .int v3), (4, .int v4), (5, .int v5)]) d_X7_any_174 rfl rfl (Nat.le_of_ble_eq_true rfl) rfl ?_
    refine r_goto (pc := 177) 94 d_X7_any_177 (by decide) ?_
    refine r_pick [2, 3, 4, 5, 6, 7, 0] (ls' := [(0, .ref 22), (1, .ref a1), (2, .int v2), (3, .int v3), (4, .int v4), (5, .int v5), (6, .int (v6 + (1 : Int32)))]) rfl ?_
    exact hk94 v2 v3 v4 v5 (v6 + (1 : Int32)) D22 
theorem s_X7_any_134 {X : zX} {Sh : zSh} {d : Nat} (hst : (zl X).stackTraces = false) (h0 : zSh0 Sh) (hd : 2 ≤ d) {a1 : Nat} (h_a1 : a1 ∈ zI_3) (k94 : Int32 → Int32 → Int32 → Int32 → Int32 → zD → Option (Int32 × zD)) (hk94 : ∀ (v2 : Int32) (v3 : Int32) (v4 : Int32) (v5 : Int32) (v6 : Int32) (D : zD) , Rn X m_X7_any (d + 1) 94 [(0, .ref 22), (1, .ref a1), (2, .int v2), (3, .int v3), (4, .int v4), (5, .int v5), (6, .int v6)] [] (Sh, D) ((oI Sh) (k94 v2 v3 v4 v5 v6 D))) (v2 : Int32) (v3 : Int32) (v4 : Int32) (v5 : Int32) (v6 : Int32) (w0 : Int32) (w1 : Int32) (D : zD)  : Rn X m_X7_any (d + 1) 134 [(0, .ref 22), (1, .ref a1), (2, .int v2), (3, .int v3), (4, .int v4), (5, .int v5), (6, .int v6)] [.int w1, .int w0] (Sh, D) ((oI Sh) (fn_X7_any_134 a1 k94 v2 v3 v4 v5 v6 w0 w1 D)) := by
  rw [fn_X7_any_134]
  refine r_ior (pc := 134) d_X7_any_134 ?_
  refine r_iload_n (pc := 135) 2 d_X7_any_135 rfl rfl ?_
  refine r_iconst (pc := 136) (2 : Int32) d_X7_any_136 rfl ?_
  refine r_icmp_le (f := (oI Sh)) (pc := 137) 147 d_X7_any_137 (by decide) (fun c15 => ?_) (fun c15 => ?_)
  · refine r_iconst (pc := 147) (0 : Int32) d_X7_any_147 rfl ?_
    refine r_pick [0, 1, 2, 3, 4, 5, 6] (ls' := [(0, .ref 22), (1, .ref a1), (2, .int v2), (3, .int v3), (4, .int v4), (5, .int v5), (6, .int v6)]) rfl ?_
    exact s_X7_any_148 hst h0 hd h_a1 k94 hk94 v2 v3 v4 v5 v6 (w0 ||| w1) (0 : Int32) D
  · refine r_iconst (pc := 140) (1 : Int32) d_X7_any_140 rfl ?_
    refine r_iload (pc := 141) 6 d_X7_any_141 rfl ?_
    refine r_ishl (pc := 143) d_X7_any_143 ?_
    refine r_goto (pc := 144) 148 d_X7_any_144 (by decide) ?_
    refine r_pick [0, 1, 2, 3, 4, 5, 6] (ls' := [(0, .ref 22), (1, .ref a1), (2, .int v2), (3, .int v3), (4, .int v4), (5, .int v5), (6, .int v6)]) rfl ?_
    exact s_X7_any_148 hst h0 hd h_a1 k94 hk94 v2 v3 v4 v5 v6 (w0 ||| w1) ((1 : Int32) <<< (v6 &&& 31)) D
theorem s_X7_any_121 {X : zX} {Sh : zSh} {d : Nat} (hst : (zl X).stackTraces = false) (h0 : zSh0 Sh) (hd : 2 ≤ d) {a1 : Nat} (h_a1 : a1 ∈ zI_3) (k94 : Int32 → Int32 → Int32 → Int32 → Int32 → zD → Option (Int32 × zD)) (hk94 : ∀ (v2 : Int32) (v3 : Int32) (v4 : Int32) (v5 : Int32) (v6 : Int32) (D : zD) , Rn X m_X7_any (d + 1) 94 [(0, .ref 22), (1, .ref a1), (2, .int v2), (3, .int v3), (4, .int v4), (5, .int v5), (6, .int v6)] [] (Sh, D) ((oI Sh) (k94 v2 v3 v4 v5 v6 D))) (v2 : Int32) (v3 : Int32) (v4 : Int32) (v5 : Int32) (v6 : Int32) (w0 : Int32) (D : zD)  : Rn X m_X7_any (d + 1) 121 [(0, .ref 22), (1, .ref a1), (2, .int v2), (3, .int v3), (4, .int v4), (5, .int v5), (6, .int v6)] [.int w0] (Sh, D) ((oI Sh) (fn_X7_any_121 a1 k94 v2 v3 v4 v5 v6 w0 D)) := by
  rw [fn_X7_any_121]
  refine r_iload_n (pc := 121) 2 d_X7_any_121 rfl rfl ?_
  refine r_iconst (pc := 122) (1 : Int32) d_X7_any_122 rfl ?_
  refine r_icmp_le (f := (oI Sh)) (pc := 123) 133 d_X7_any_123 (by decide) (fun c14 => ?_) (fun c14 => ?_)
  · refine r_iconst (pc := 133) (0 : Int32) d_X7_any_133 rfl ?_
    refine r_pick [0, 1, 2, 3, 4, 5, 6] (ls' := [(0, .ref 22), (1, .ref a1), (2, .int v2), (3, .int v3), (4, .int v4), (5, .int v5), (6, .int v6)]) rfl ?_
    exact s_X7_any_134 hst h0 hd h_a1 k94 hk94 v2 v3 v4 v5 v6 w0 (0 : Int32) D
  · refine r_iconst (pc := 126) (1 : Int32) d_X7_any_126 rfl ?_
    refine r_iload (pc := 127) 5 d_X7_any_127 rfl ?_
    refine r_ishl (pc := 129) d_X7_any_129 ?_
    refine r_goto (pc := 130) 134 d_X7_any_130 (by decide) ?_
    refine r_pick [0, 1, 2, 3, 4, 5, 6] (ls' := [(0, .ref 22), (1, .ref a1), (2, .int v2), (3, .int v3), (4, .int v4), (5, .int v5), (6, .int v6)]) rfl ?_
    exact s_X7_any_134 hst h0 hd h_a1 k94 hk94 v2 v3 v4 v5 v6 w0 ((1 : Int32) <<< (v5 &&& 31)) D
theorem s_X7_any_106 {X : zX} {Sh : zSh} {d : Nat} (hst : (zl X).stackTraces = false) (h0 : zSh0 Sh) (hd : 2 ≤ d) {a1 : Nat} (h_a1 : a1 ∈ zI_3) (k64 : Int32 → Int32 → Int32 → Int32 → zD → Option (Int32 × zD)) (k94 : Int32 → Int32 → Int32 → Int32 → Int32 → zD → Option (Int32 × zD)) (hk64 : ∀ (v2 : Int32) (v3 : Int32) (v4 : Int32) (v5 : Int32) (D : zD) , Rn X m_X7_any (d + 1) 64 [(0, .ref 22), (1, .ref a1), (2, .int v2), (3, .int v3), (4, .int v4), (5, .int v5)] [] (Sh, D) ((oI Sh) (k64 v2 v3 v4 v5 D))) (hk94 : ∀ (v2 : Int32) (v3 : Int32) (v4 : Int32) (v5 : Int32) (v6 : Int32) (D : zD) , Rn X m_X7_any (d + 1) 94 [(0, .ref 22), (1, .ref a1), (2, .int v2), (3, .int v3), (4, .int v4), (5, .int v5), (6, .int v6)] [] (Sh, D) ((oI Sh) (k94 v2 v3 v4 v5 v6 D))) (v2 : Int32) (v3 : Int32) (v4 : Int32) (v5 : Int32) (v6 : Int32) (w0 : Int32) (w1 : Int32) (D : zD)  : Rn X m_X7_any (d + 1) 106 [(0, .ref 22), (1, .ref a1), (2, .int v2), (3, .int v3), (4, .int v4), (5, .int v5), (6, .int v6)] [.int w1, .int w0] (Sh, D) ((oI Sh) (fn_X7_any_106 a1 k64 k94 v2 v3 v4 v5 v6 w0 w1 D)) := by
  rw [fn_X7_any_106]
  refine r_icmp_ge (f := (oI Sh)) (pc := 106) 180 d_X7_any_106 (by decide) (fun c12 => ?_) (fun c12 => ?_)
  · refine r_iinc (pc := 180) ((v5 + (1 : Int32))) 5 (ls' := [(5, .int (v5 + (1 : Int32))), (0, .ref 22), (1, .ref a1), (2, .int v2), (3, .int v3), (4, .int v4), (6, .int v6)]) d_X7_any_180 rfl rfl (Nat.le_of_ble_eq_true rfl) rfl ?_
    refine r_goto (pc := 183) 64 d_X7_any_183 (by decide) ?_
    refine r_pick [1, 2, 3, 4, 5, 0] (ls' := [(0, .ref 22), (1, .ref a1), (2, .int v2), (3, .int v3), (4, .int v4), (5, .int (v5 + (1 : Int32)))]) rfl ?_
    exact hk64 v2 v3 v4 (v5 + (1 : Int32)) D 
  · refine r_iload_n (pc := 109) 2 d_X7_any_109 rfl rfl ?_
    refine r_if_le (f := (oI Sh)) (pc := 110) 120 d_X7_any_110 (by decide) (fun c13 => ?_) (fun c13 => ?_)
    · refine r_iconst (pc := 120) (0 : Int32) d_X7_any_120 rfl ?_
      refine r_pick [0, 1, 2, 3, 4, 5, 6] (ls' := [(0, .ref 22), (1, .ref a1), (2, .int v2), (3, .int v3), (4, .int v4), (5, .int v5), (6, .int v6)]) rfl ?_
      exact s_X7_any_121 hst h0 hd h_a1 k94 hk94 v2 v3 v4 v5 v6 (0 : Int32) D
    · refine r_iconst (pc := 113) (1 : Int32) d_X7_any_113 rfl ?_
      refine r_iload (pc := 114) 4 d_X7_any_114 rfl ?_
      refine r_ishl (pc := 116) d_X7_any_116 ?_
      refine r_goto (pc := 117) 121 d_X7_any_117 (by decide) ?_
      refine r_pick [0, 1, 2, 3, 4, 5, 6] (ls' := [(0, .ref 22), (1, .ref a1), (2, .int v2), (3, .int v3), (4, .int v4), (5, .int v5), (6, .int v6)]) rfl ?_
      exact s_X7_any_121 hst h0 hd h_a1 k94 hk94 v2 v3 v4 v5 v6 ((1 : Int32) <<< (v4 &&& 31)) D
theorem s_X7_any_94 {X : zX} {Sh : zSh} {d : Nat} (hst : (zl X).stackTraces = false) (h0 : zSh0 Sh) (hd : 2 ≤ d) {a1 : Nat} (h_a1 : a1 ∈ zI_3) (k64 : Int32 → Int32 → Int32 → Int32 → zD → Option (Int32 × zD)) (hk64 : ∀ (v2 : Int32) (v3 : Int32) (v4 : Int32) (v5 : Int32) (D : zD) , Rn X m_X7_any (d + 1) 64 [(0, .ref 22), (1, .ref a1), (2, .int v2), (3, .int v3), (4, .int v4), (5, .int v5)] [] (Sh, D) ((oI Sh) (k64 v2 v3 v4 v5 D))) : ∀ (n : Nat) (v2 : Int32) (v3 : Int32) (v4 : Int32) (v5 : Int32) (v6 : Int32) (D : zD) , Rn X m_X7_any (d + 1) 94 [(0, .ref 22), (1, .ref a1), (2, .int v2), (3, .int v3), (4, .int v4), (5, .int v5), (6, .int v6)] [] (Sh, D) ((oI Sh) (fn_X7_any_94 a1 k64 n v2 v3 v4 v5 v6 D)) := by
  intro n
  induction n with
  | zero => intro v2 v3 v4 v5 v6 D; exact Rn_none rfl
  | succ n hk94 =>
    intro v2 v3 v4 v5 v6 D
    rw [fn_X7_any_94]
    refine r_iload (pc := 94) 6 d_X7_any_94 rfl ?_
    refine r_iload_n (pc := 96) 2 d_X7_any_96 rfl rfl ?_
    refine r_iconst (pc := 97) (2 : Int32) d_X7_any_97 rfl ?_
    refine r_icmp_le (f := (oI Sh)) (pc := 98) 105 d_X7_any_98 (by decide) (fun c11 => ?_) (fun c11 => ?_)
    · refine r_iconst (pc := 105) (1 : Int32) d_X7_any_105 rfl ?_
      refine r_pick [0, 1, 2, 3, 4, 5, 6] (ls' := [(0, .ref 22), (1, .ref a1), (2, .int v2), (3, .int v3), (4, .int v4), (5, .int v5), (6, .int v6)]) rfl ?_
      exact s_X7_any_106 hst h0 hd h_a1 k64 (fn_X7_any_94 a1 k64 n) hk64 hk94 v2 v3 v4 v5 v6 v6 (1 : Int32) D
    · refine r_iload_n (pc := 101) 3 d_X7_any_101 rfl rfl ?_
      refine r_goto (pc := 102) 106 d_X7_any_102 (by decide) ?_
      refine r_pick [0, 1, 2, 3, 4, 5, 6] (ls' := [(0, .ref 22), (1, .ref a1), (2, .int v2), (3, .int v3), (4, .int v4), (5, .int v5), (6, .int v6)]) rfl ?_
      exact s_X7_any_106 hst h0 hd h_a1 k64 (fn_X7_any_94 a1 k64 n) hk64 hk94 v2 v3 v4 v5 v6 v6 v3 D
theorem s_X7_any_76 {X : zX} {Sh : zSh} {d : Nat} (hst : (zl X).stackTraces = false) (h0 : zSh0 Sh) (hd : 2 ≤ d) {a1 : Nat} (h_a1 : a1 ∈ zI_3) (k35 : Int32 → Int32 → Int32 → zD → Option (Int32 × zD)) (k64 : Int32 → Int32 → Int32 → Int32 → zD → Option (Int32 × zD)) (hk35 : ∀ (v2 : Int32) (v3 : Int32) (v4 : Int32) (D : zD) , Rn X m_X7_any (d + 1) 35 [(0, .ref 22), (1, .ref a1), (2, .int v2), (3, .int v3), (4, .int v4)] [] (Sh, D) ((oI Sh) (k35 v2 v3 v4 D))) (hk64 : ∀ (v2 : Int32) (v3 : Int32) (v4 : Int32) (v5 : Int32) (D : zD) , Rn X m_X7_any (d + 1) 64 [(0, .ref 22), (1, .ref a1), (2, .int v2), (3, .int v3), (4, .int v4), (5, .int v5)] [] (Sh, D) ((oI Sh) (k64 v2 v3 v4 v5 D))) (v2 : Int32) (v3 : Int32) (v4 : Int32) (v5 : Int32) (w0 : Int32) (w1 : Int32) (D : zD)  : Rn X m_X7_any (d + 1) 76 [(0, .ref 22), (1, .ref a1), (2, .int v2), (3, .int v3), (4, .int v4), (5, .int v5)] [.int w1, .int w0] (Sh, D) ((oI Sh) (fn_X7_any_76 a1 k35 k64 v2 v3 v4 v5 w0 w1 D)) := by
  rw [fn_X7_any_76]
  refine r_icmp_ge (f := (oI Sh)) (pc := 76) 186 d_X7_any_76 (by decide) (fun c9 => ?_) (fun c9 => ?_)
  · refine r_iinc (pc := 186) ((v4 + (1 : Int32))) 4 (ls' := [(4, .int (v4 + (1 : Int32))), (0, .ref 22), (1, .ref a1), (2, .int v2), (3, .int v3), (5, .int v5)]) d_X7_any_186 rfl rfl (Nat.le_of_ble_eq_true rfl) rfl ?_
    refine r_goto (pc := 189) 35 d_X7_any_189 (by decide) ?_
    refine r_pick [1, 2, 3, 4, 0] (ls' := [(0, .ref 22), (1, .ref a1), (2, .int v2), (3, .int v3), (4, .int (v4 + (1 : Int32)))]) rfl ?_
    exact hk35 v2 v3 (v4 + (1 : Int32)) D 
  · refine r_iload_n (pc := 79) 2 d_X7_any_79 rfl rfl ?_
    refine r_iconst (pc := 80) (2 : Int32) d_X7_any_80 rfl ?_
    refine r_icmp_le (f := (oI Sh)) (pc := 81) 91 d_X7_any_81 (by decide) (fun c10 => ?_) (fun c10 => ?_)
    · refine r_iconst (pc := 91) (0 : Int32) d_X7_any_91 rfl ?_
      refine r_istore (pc := 92) (ls' := [(6, .int (0 : Int32)), (0, .ref 22), (1, .ref a1), (2, .int v2), (3, .int v3), (4, .int v4), (5, .int v5)]) d_X7_any_92 (Nat.le_of_ble_eq_true rfl) rfl ?_
      refine r_pick [1, 2, 3, 4, 5, 6, 0] (ls' := [(0, .ref 22), (1, .ref a1), (2, .int v2), (3, .int v3), (4, .int v4), (5, .int v5), (6, .int (0 : Int32))]) rfl ?_
      exact s_X7_any_94 hst h0 hd h_a1 k64 hk64 zFU  v2 v3 v4 v5 (0 : Int32) D
    · refine r_iload (pc := 84) 5 d_X7_any_84 rfl ?_
      refine r_iconst (pc := 86) (1 : Int32) d_X7_any_86 rfl ?_
      refine r_iadd (pc := 87) d_X7_any_87 ?_
      refine r_goto (pc := 88) 92 d_X7_any_88 (by decide) ?_
      refine r_leti (f := (oI Sh)) (fun x23 => ?_)
      refine r_istore (pc := 92) (ls' := [(6, .int x23), (0, .ref 22), (1, .ref a1), (2, .int v2), (3, .int v3), (4, .int v4), (5, .int v5)]) d_X7_any_92 (Nat.le_of_ble_eq_true rfl) rfl ?_
      refine r_pick [1, 2, 3, 4, 5, 6, 0] (ls' := [(0, .ref 22), (1, .ref a1), (2, .int v2), (3, .int v3), (4, .int v4), (5, .int v5), (6, .int x23)]) rfl ?_
      exact s_X7_any_94 hst h0 hd h_a1 k64 hk64 zFU  v2 v3 v4 v5 x23 D
theorem s_X7_any_64 {X : zX} {Sh : zSh} {d : Nat} (hst : (zl X).stackTraces = false) (h0 : zSh0 Sh) (hd : 2 ≤ d) {a1 : Nat} (h_a1 : a1 ∈ zI_3) (k35 : Int32 → Int32 → Int32 → zD → Option (Int32 × zD)) (hk35 : ∀ (v2 : Int32) (v3 : Int32) (v4 : Int32) (D : zD) , Rn X m_X7_any (d + 1) 35 [(0, .ref 22), (1, .ref a1), (2, .int v2), (3, .int v3), (4, .int v4)] [] (Sh, D) ((oI Sh) (k35 v2 v3 v4 D))) : ∀ (n : Nat) (v2 : Int32) (v3 : Int32) (v4 : Int32) (v5 : Int32) (D : zD) , Rn X m_X7_any (d + 1) 64 [(0, .ref 22), (1, .ref a1), (2, .int v2), (3, .int v3), (4, .int v4), (5, .int v5)] [] (Sh, D) ((oI Sh) (fn_X7_any_64 a1 k35 n v2 v3 v4 v5 D)) := by
  intro n
  induction n with
  | zero => intro v2 v3 v4 v5 D; exact Rn_none rfl
  | succ n hk64 =>
    intro v2 v3 v4 v5 D
    rw [fn_X7_any_64]
    refine r_iload (pc := 64) 5 d_X7_any_64 rfl ?_
    refine r_iload_n (pc := 66) 2 d_X7_any_66 rfl rfl ?_
    refine r_iconst (pc := 67) (1 : Int32) d_X7_any_67 rfl ?_
    refine r_icmp_le (f := (oI Sh)) (pc := 68) 75 d_X7_any_68 (by decide) (fun c8 => ?_) (fun c8 => ?_)
    · refine r_iconst (pc := 75) (1 : Int32) d_X7_any_75 rfl ?_
      refine r_pick [0, 1, 2, 3, 4, 5] (ls' := [(0, .ref 22), (1, .ref a1), (2, .int v2), (3, .int v3), (4, .int v4), (5, .int v5)]) rfl ?_
      exact s_X7_any_76 hst h0 hd h_a1 k35 (fn_X7_any_64 a1 k35 n) hk35 hk64 v2 v3 v4 v5 v5 (1 : Int32) D
    · refine r_iload_n (pc := 71) 3 d_X7_any_71 rfl rfl ?_
      refine r_goto (pc := 72) 76 d_X7_any_72 (by decide) ?_
      refine r_pick [0, 1, 2, 3, 4, 5] (ls' := [(0, .ref 22), (1, .ref a1), (2, .int v2), (3, .int v3), (4, .int v4), (5, .int v5)]) rfl ?_
      exact s_X7_any_76 hst h0 hd h_a1 k35 (fn_X7_any_64 a1 k35 n) hk35 hk64 v2 v3 v4 v5 v5 v3 D
theorem s_X7_any_46 {X : zX} {Sh : zSh} {d : Nat} (hst : (zl X).stackTraces = false) (h0 : zSh0 Sh) (hd : 2 ≤ d) {a1 : Nat} (h_a1 : a1 ∈ zI_3) (k35 : Int32 → Int32 → Int32 → zD → Option (Int32 × zD)) (hk35 : ∀ (v2 : Int32) (v3 : Int32) (v4 : Int32) (D : zD) , Rn X m_X7_any (d + 1) 35 [(0, .ref 22), (1, .ref a1), (2, .int v2), (3, .int v3), (4, .int v4)] [] (Sh, D) ((oI Sh) (k35 v2 v3 v4 D))) (v2 : Int32) (v3 : Int32) (v4 : Int32) (w0 : Int32) (w1 : Int32) (D : zD)  : Rn X m_X7_any (d + 1) 46 [(0, .ref 22), (1, .ref a1), (2, .int v2), (3, .int v3), (4, .int v4)] [.int w1, .int w0] (Sh, D) ((oI Sh) (fn_X7_any_46 a1 k35 v2 v3 v4 w0 w1 D)) := by
  rw [fn_X7_any_46]
  refine r_icmp_ge (f := (oI Sh)) (pc := 46) 192 d_X7_any_46 (by decide) (fun c6 => ?_) (fun c6 => ?_)
  · refine r_iconst (pc := 192) (1 : Int32) d_X7_any_192 rfl ?_
    exact r_zret (pc := 193) rfl (by decide) d_X7_any_193
  · refine r_iload_n (pc := 49) 2 d_X7_any_49 rfl rfl ?_
    refine r_iconst (pc := 50) (1 : Int32) d_X7_any_50 rfl ?_
    refine r_icmp_le (f := (oI Sh)) (pc := 51) 61 d_X7_any_51 (by decide) (fun c7 => ?_) (fun c7 => ?_)
    · refine r_iconst (pc := 61) (0 : Int32) d_X7_any_61 rfl ?_
      refine r_istore (pc := 62) (ls' := [(5, .int (0 : Int32)), (0, .ref 22), (1, .ref a1), (2, .int v2), (3, .int v3), (4, .int v4)]) d_X7_any_62 (Nat.le_of_ble_eq_true rfl) rfl ?_
      refine r_pick [1, 2, 3, 4, 5, 0] (ls' := [(0, .ref 22), (1, .ref a1), (2, .int v2), (3, .int v3), (4, .int v4), (5, .int (0 : Int32))]) rfl ?_
      exact s_X7_any_64 hst h0 hd h_a1 k35 hk35 zFU  v2 v3 v4 (0 : Int32) D
    · refine r_iload (pc := 54) 4 d_X7_any_54 rfl ?_
      refine r_iconst (pc := 56) (1 : Int32) d_X7_any_56 rfl ?_
      refine r_iadd (pc := 57) d_X7_any_57 ?_
      refine r_goto (pc := 58) 62 d_X7_any_58 (by decide) ?_
      refine r_leti (f := (oI Sh)) (fun x24 => ?_)
      refine r_istore (pc := 62) (ls' := [(5, .int x24), (0, .ref 22), (1, .ref a1), (2, .int v2), (3, .int v3), (4, .int v4)]) d_X7_any_62 (Nat.le_of_ble_eq_true rfl) rfl ?_
      refine r_pick [1, 2, 3, 4, 5, 0] (ls' := [(0, .ref 22), (1, .ref a1), (2, .int v2), (3, .int v3), (4, .int v4), (5, .int x24)]) rfl ?_
      exact s_X7_any_64 hst h0 hd h_a1 k35 hk35 zFU  v2 v3 v4 x24 D
theorem s_X7_any_35 {X : zX} {Sh : zSh} {d : Nat} (hst : (zl X).stackTraces = false) (h0 : zSh0 Sh) (hd : 2 ≤ d) {a1 : Nat} (h_a1 : a1 ∈ zI_3) : ∀ (n : Nat) (v2 : Int32) (v3 : Int32) (v4 : Int32) (D : zD) , Rn X m_X7_any (d + 1) 35 [(0, .ref 22), (1, .ref a1), (2, .int v2), (3, .int v3), (4, .int v4)] [] (Sh, D) ((oI Sh) (fn_X7_any_35 a1 n v2 v3 v4 D)) := by
  intro n
  induction n with
  | zero => intro v2 v3 v4 D; exact Rn_none rfl
  | succ n hk35 =>
    intro v2 v3 v4 D
    rw [fn_X7_any_35]
    refine r_iload (pc := 35) 4 d_X7_any_35 rfl ?_
    refine r_iload_n (pc := 37) 2 d_X7_any_37 rfl rfl ?_
    refine r_if_le (f := (oI Sh)) (pc := 38) 45 d_X7_any_38 (by decide) (fun c5 => ?_) (fun c5 => ?_)
    · refine r_iconst (pc := 45) (1 : Int32) d_X7_any_45 rfl ?_
      refine r_pick [0, 1, 2, 3, 4] (ls' := [(0, .ref 22), (1, .ref a1), (2, .int v2), (3, .int v3), (4, .int v4)]) rfl ?_
      exact s_X7_any_46 hst h0 hd h_a1 (fn_X7_any_35 a1 n) hk35 v2 v3 v4 v4 (1 : Int32) D
    · refine r_iload_n (pc := 41) 3 d_X7_any_41 rfl rfl ?_
      refine r_goto (pc := 42) 46 d_X7_any_42 (by decide) ?_
      refine r_pick [0, 1, 2, 3, 4] (ls' := [(0, .ref 22), (1, .ref a1), (2, .int v2), (3, .int v3), (4, .int v4)]) rfl ?_
      exact s_X7_any_46 hst h0 hd h_a1 (fn_X7_any_35 a1 n) hk35 v2 v3 v4 v4 v3 D
theorem s_X7_any {X : zX} {Sh : zSh} {d : Nat} (hst : (zl X).stackTraces = false) (h0 : zSh0 Sh) (hd : 3 ≤ d) {a1 : Nat} (h_a1 : a1 ∈ zI_3) {D : zD} : Sd X m_X7_any d [.ref 22, .ref a1] (Sh, D) ((oI Sh) (fn_X7_any a1 D)) := by
  obtain ⟨d, rfl⟩ : ∃ e, d = e + 1 := ⟨d - 1, by omega⟩
  replace hd : 2 ≤ d := by omega
  refine z_body ck_X7_any rfl (Nat.le_of_ble_eq_true rfl) rfl hst ?_
  rw [fn_X7_any]
  show Rn X m_X7_any (d + 1) 0 [(0, .ref 22), (1, .ref a1)] [] (Sh, D) _
  refine r_aload_n (pc := 0) 0 d_X7_any_0 rfl rfl ?_
  refine r_getR (pc := 1) g_X7_26 (K_22 h0) rfl (R_22_0 h0) d_X7_any_1 ?_
  refine r_iconst (pc := 4) (0 : Int32) d_X7_any_4 rfl ?_
  refine r_iconst (pc := 5) (3 : Int32) d_X7_any_5 rfl ?_
  refine q_cI (f := (oI Sh)) (av := [.ref 2, .int (0 : Int32), .int (3 : Int32)]) (st := []) (z_runV ck_X8_number rfl ml_X7_119 ci_X8_number cv_X8_number (K_2 h0) (ci := 8) rfl rfl (Nat.le_of_ble_eq_true rfl) d_X7_any_6) (s_X8_number hst h0 (by omega)) kp_I (fun q1 _ => ?_)
  refine r_istore_n (pc := 9) (ls' := [(2, .int q1.1), (0, .ref 22), (1, .ref a1)]) d_X7_any_9 rfl (Nat.le_of_ble_eq_true rfl) rfl ?_
  refine r_iload_n (pc := 10) 0 d_X7_any_10 rfl rfl ?_
  refine r_iconst (pc := 11) (-1 : Int32) d_X7_any_11 rfl ?_
  refine r_icmp_ne (f := (oI Sh)) (pc := 12) 17 d_X7_any_12 (by decide) (fun c2 => ?_) (fun c2 => ?_)
  · refine r_aload_n (pc := 17) 2 d_X7_any_17 rfl rfl ?_
    refine r_iconst (pc := 18) (0 : Int32) d_X7_any_18 rfl ?_
    refine r_putIn (pc := 19) p_X7_136 (LK_3 h0 h_a1) rfl (Or.inl rfl) d_X7_any_19 ?_
    refine r_letD (f := (oI Sh)) (fun D3 => ?_)
    refine r_aload_n (pc := 22) 1 d_X7_any_22 rfl rfl ?_
    refine q_gI (pc := 23) g_X7_34 (K_22 h0) rfl d_X7_any_23 ?_
    refine r_aload_n (pc := 26) 1 d_X7_any_26 rfl rfl ?_
    refine q_gI (pc := 27) g_X7_38 (K_22 h0) rfl d_X7_any_27 ?_
    refine r_imul (pc := 30) d_X7_any_30 ?_
    refine r_leti (f := (oI Sh)) (fun x4 => ?_)
    refine r_istore_n (pc := 31) (ls' := [(3, .int x4), (2, .int q1.1), (0, .ref 22), (1, .ref a1)]) d_X7_any_31 rfl (Nat.le_of_ble_eq_true rfl) rfl ?_
    refine r_iconst (pc := 32) (0 : Int32) d_X7_any_32 rfl ?_
    refine r_istore (pc := 33) (ls' := [(4, .int (0 : Int32)), (3, .int x4), (2, .int q1.1), (0, .ref 22), (1, .ref a1)]) d_X7_any_33 (Nat.le_of_ble_eq_true rfl) rfl ?_
    refine r_pick [3, 4, 2, 1, 0] (ls' := [(0, .ref 22), (1, .ref a1), (2, .int q1.1), (3, .int x4), (4, .int (0 : Int32))]) rfl ?_
    exact s_X7_any_35 hst h0 hd h_a1 zFU  q1.1 x4 (0 : Int32) D3
  · refine r_iconst (pc := 15) (0 : Int32) d_X7_any_15 rfl ?_
    exact r_zret (pc := 16) rfl (by decide) d_X7_any_16
/-! CoveredSigns$RuleText.complement -/
theorem d_X7_complement_0 : decode (yB m_X7_complement) 0 = .ok (.iconst 1, 1) := by decide +kernel
theorem d_X7_complement_1 : decode (yB m_X7_complement) 1 = .ok (.aload_n 0, 1) := by decide +kernel
theorem d_X7_complement_2 : decode (yB m_X7_complement) 2 = .ok (.getfield 34, 3) := by decide +kernel
theorem d_X7_complement_5 : decode (yB m_X7_complement) 5 = .ok (.aload_n 0, 1) := by decide +kernel
theorem d_X7_complement_6 : decode (yB m_X7_complement) 6 = .ok (.getfield 38, 3) := by decide +kernel
theorem d_X7_complement_9 : decode (yB m_X7_complement) 9 = .ok (.imul, 1) := by decide +kernel
theorem d_X7_complement_10 : decode (yB m_X7_complement) 10 = .ok (.ishl, 1) := by decide +kernel
theorem d_X7_complement_11 : decode (yB m_X7_complement) 11 = .ok (.iconst 1, 1) := by decide +kernel
theorem d_X7_complement_12 : decode (yB m_X7_complement) 12 = .ok (.isub, 1) := by decide +kernel
theorem d_X7_complement_13 : decode (yB m_X7_complement) 13 = .ok (.istore_n 2, 1) := by decide +kernel
theorem d_X7_complement_14 : decode (yB m_X7_complement) 14 = .ok (.iconst 0, 1) := by decide +kernel
theorem d_X7_complement_15 : decode (yB m_X7_complement) 15 = .ok (.istore_n 3, 1) := by decide +kernel
theorem d_X7_complement_16 : decode (yB m_X7_complement) 16 = .ok (.iload_n 3, 1) := by decide +kernel
theorem d_X7_complement_17 : decode (yB m_X7_complement) 17 = .ok (.aload_n 1, 1) := by decide +kernel
theorem d_X7_complement_18 : decode (yB m_X7_complement) 18 = .ok (.getfield 136, 3) := by decide +kernel
theorem d_X7_complement_21 : decode (yB m_X7_complement) 21 = .ok (.if_icmp .ge 32, 3) := by decide +kernel
theorem d_X7_complement_24 : decode (yB m_X7_complement) 24 = .ok (.iload_n 3, 1) := by decide +kernel
theorem d_X7_complement_25 : decode (yB m_X7_complement) 25 = .ok (.sipush 500, 3) := by decide +kernel
theorem d_X7_complement_28 : decode (yB m_X7_complement) 28 = .ok (.if_icmp .ge 25, 3) := by decide +kernel
theorem d_X7_complement_31 : decode (yB m_X7_complement) 31 = .ok (.aload_n 1, 1) := by decide +kernel
theorem d_X7_complement_32 : decode (yB m_X7_complement) 32 = .ok (.getfield 143, 3) := by decide +kernel
theorem d_X7_complement_35 : decode (yB m_X7_complement) 35 = .ok (.iload_n 3, 1) := by decide +kernel
theorem d_X7_complement_36 : decode (yB m_X7_complement) 36 = .ok (.iload_n 2, 1) := by decide +kernel
theorem d_X7_complement_37 : decode (yB m_X7_complement) 37 = .ok (.aload_n 1, 1) := by decide +kernel
theorem d_X7_complement_38 : decode (yB m_X7_complement) 38 = .ok (.getfield 143, 3) := by decide +kernel
theorem d_X7_complement_41 : decode (yB m_X7_complement) 41 = .ok (.iload_n 3, 1) := by decide +kernel
theorem d_X7_complement_42 : decode (yB m_X7_complement) 42 = .ok (.iaload, 1) := by decide +kernel
theorem d_X7_complement_43 : decode (yB m_X7_complement) 43 = .ok (.iconst (-1), 1) := by decide +kernel
theorem d_X7_complement_44 : decode (yB m_X7_complement) 44 = .ok (.ixor, 1) := by decide +kernel
theorem d_X7_complement_45 : decode (yB m_X7_complement) 45 = .ok (.iand, 1) := by decide +kernel
theorem d_X7_complement_46 : decode (yB m_X7_complement) 46 = .ok (.iastore, 1) := by decide +kernel
theorem d_X7_complement_47 : decode (yB m_X7_complement) 47 = .ok (.iinc 3 1, 3) := by decide +kernel
theorem d_X7_complement_50 : decode (yB m_X7_complement) 50 = .ok (.goto (-34), 3) := by decide +kernel
theorem d_X7_complement_53 : decode (yB m_X7_complement) 53 = .ok (.iconst 1, 1) := by decide +kernel
theorem d_X7_complement_54 : decode (yB m_X7_complement) 54 = .ok (.ireturn, 1) := by decide +kernel
def fn_X7_complement_16 (a1 : Nat) : Nat → Int32 → Int32 → zD → Option (Int32 × zD)
  | 0, _, _, _ => none
  | n + 1, v2, v3, D => (if (gI D a1 1) ≤ v3 then ((some ((1 : Int32), D))) else ((if (500 : Int32) ≤ v3 then ((some ((1 : Int32), D))) else (zck v3 500 <| zck v3 500 <| zlet (sI D (a1 + 1) v3.toNatClampNeg (v2 &&& ((gI D (a1 + 1) v3.toNatClampNeg) ^^^ (-1 : Int32)))) fun D6 => ((fn_X7_complement_16 a1 n) v2 (v3 + (1 : Int32)) D6)))))
def fn_X7_complement (a1 : Nat) (D : zD) : Option (Int32 × zD) := zlet (((1 : Int32) <<< (((gI D 22 4) * (gI D 22 5)) &&& 31)) - (1 : Int32)) fun x1 => (fn_X7_complement_16 a1 zFU x1 (0 : Int32) D)
theorem s_X7_complement_16 {X : zX} {Sh : zSh} {d : Nat} (hst : (zl X).stackTraces = false) (h0 : zSh0 Sh) (hd : 0 ≤ d) {a1 : Nat} (h_a1 : a1 ∈ zI_3) : ∀ (n : Nat) (v2 : Int32) (v3 : Int32) (D : zD) , Rn X m_X7_complement (d + 1) 16 [(1, .ref a1), (2, .int v2), (3, .int v3)] [] (Sh, D) ((oI Sh) (fn_X7_complement_16 a1 n v2 v3 D)) := by
  intro n
  induction n with
  | zero => intro v2 v3 D; exact Rn_none rfl
  | succ n hk16 =>
    intro v2 v3 D
    rw [fn_X7_complement_16]
    refine r_iload_n (pc := 16) 2 d_X7_complement_16 rfl rfl ?_
    refine r_aload_n (pc := 17) 0 d_X7_complement_17 rfl rfl ?_
    refine q_gIn (pc := 18) g_X7_136 (LK_3 h0 h_a1) rfl d_X7_complement_18 ?_
    refine r_icmp_ge (f := (oI Sh)) (pc := 21) 53 d_X7_complement_21 (by decide) (fun c2 => ?_) (fun c2 => ?_)
    · refine r_iconst (pc := 53) (1 : Int32) d_X7_complement_53 rfl ?_
      exact r_zret (pc := 54) rfl (by decide) d_X7_complement_54
    · refine r_iload_n (pc := 24) 2 d_X7_complement_24 rfl rfl ?_
      refine r_sipush (pc := 25) (500 : Int32) d_X7_complement_25 rfl ?_
      refine r_icmp_ge (f := (oI Sh)) (pc := 28) 53 d_X7_complement_28 (by decide) (fun c3 => ?_) (fun c3 => ?_)
      · refine r_iconst (pc := 53) (1 : Int32) d_X7_complement_53 rfl ?_
        exact r_zret (pc := 54) rfl (by decide) d_X7_complement_54
      · refine r_aload_n (pc := 31) 0 d_X7_complement_31 rfl rfl ?_
        refine r_getRn (pc := 32) g_X7_143 (LK_3 h0 h_a1) rfl (LR_3_0 h0 h_a1) d_X7_complement_32 ?_
        refine r_iload_n (pc := 35) 2 d_X7_complement_35 rfl rfl ?_
        refine r_iload_n (pc := 36) 1 d_X7_complement_36 rfl rfl ?_
        refine r_aload_n (pc := 37) 0 d_X7_complement_37 rfl rfl ?_
        refine r_getRn (pc := 38) g_X7_143 (LK_3 h0 h_a1) rfl (LR_3_0 h0 h_a1) d_X7_complement_38 ?_
        refine r_iload_n (pc := 41) 2 d_X7_complement_41 rfl rfl ?_
        refine r_ck (f := (oI Sh)) rfl (fun hc4 => ?_)
        refine q_iald (pc := 42) (j := v3.toNatClampNeg) (LA_3_0 h0 h_a1) hc4 rfl d_X7_complement_42 ?_
        refine r_iconst (pc := 43) (-1 : Int32) d_X7_complement_43 rfl ?_
        refine r_ixor (pc := 44) d_X7_complement_44 ?_
        refine r_iand (pc := 45) d_X7_complement_45 ?_
        refine r_ck (f := (oI Sh)) rfl (fun hc5 => ?_)
        refine q_iast (pc := 46) (j := v3.toNatClampNeg) (LA_3_0 h0 h_a1) hc5 rfl  d_X7_complement_46 ?_
        refine r_letD (f := (oI Sh)) (fun D6 => ?_)
        refine r_iinc (pc := 47) ((v3 + (1 : Int32))) 2 (ls' := [(3, .int (v3 + (1 : Int32))), (1, .ref a1), (2, .int v2)]) d_X7_complement_47 rfl rfl (Nat.le_of_ble_eq_true rfl) rfl ?_
        refine r_goto (pc := 50) 16 d_X7_complement_50 (by decide) ?_
        refine r_pick [1, 2, 0] (ls' := [(1, .ref a1), (2, .int v2), (3, .int (v3 + (1 : Int32)))]) rfl ?_
        exact hk16 v2 (v3 + (1 : Int32)) D6 
theorem s_X7_complement {X : zX} {Sh : zSh} {d : Nat} (hst : (zl X).stackTraces = false) (h0 : zSh0 Sh) (hd : 1 ≤ d) {a1 : Nat} (h_a1 : a1 ∈ zI_3) {D : zD} : Sd X m_X7_complement d [.ref 22, .ref a1] (Sh, D) ((oI Sh) (fn_X7_complement a1 D)) := by
  obtain ⟨d, rfl⟩ : ∃ e, d = e + 1 := ⟨d - 1, by omega⟩
  replace hd : 0 ≤ d := by omega
  refine z_body ck_X7_complement rfl (Nat.le_of_ble_eq_true rfl) rfl hst ?_
  rw [fn_X7_complement]
  show Rn X m_X7_complement (d + 1) 0 [(0, .ref 22), (1, .ref a1)] [] (Sh, D) _
  refine r_iconst (pc := 0) (1 : Int32) d_X7_complement_0 rfl ?_
  refine r_aload_n (pc := 1) 0 d_X7_complement_1 rfl rfl ?_
  refine q_gI (pc := 2) g_X7_34 (K_22 h0) rfl d_X7_complement_2 ?_
  refine r_aload_n (pc := 5) 0 d_X7_complement_5 rfl rfl ?_
  refine q_gI (pc := 6) g_X7_38 (K_22 h0) rfl d_X7_complement_6 ?_
  refine r_imul (pc := 9) d_X7_complement_9 ?_
  refine r_ishl (pc := 10) d_X7_complement_10 ?_
  refine r_iconst (pc := 11) (1 : Int32) d_X7_complement_11 rfl ?_
  refine r_isub (pc := 12) d_X7_complement_12 ?_
  refine r_leti (f := (oI Sh)) (fun x1 => ?_)
  refine r_istore_n (pc := 13) (ls' := [(2, .int x1), (0, .ref 22), (1, .ref a1)]) d_X7_complement_13 rfl (Nat.le_of_ble_eq_true rfl) rfl ?_
  refine r_iconst (pc := 14) (0 : Int32) d_X7_complement_14 rfl ?_
  refine r_istore_n (pc := 15) (ls' := [(3, .int (0 : Int32)), (2, .int x1), (0, .ref 22), (1, .ref a1)]) d_X7_complement_15 rfl (Nat.le_of_ble_eq_true rfl) rfl ?_
  refine r_pick [3, 1, 0] (ls' := [(1, .ref a1), (2, .int x1), (3, .int (0 : Int32))]) rfl ?_
  exact s_X7_complement_16 hst h0 hd h_a1 zFU  x1 (0 : Int32) D
/-! CoveredSigns$RuleText.block -/
theorem d_X7_block_0 : decode (yB m_X7_block) 0 = .ok (.iconst 0, 1) := by decide +kernel
theorem d_X7_block_1 : decode (yB m_X7_block) 1 = .ok (.istore 5, 2) := by decide +kernel
theorem d_X7_block_3 : decode (yB m_X7_block) 3 = .ok (.iload_n 2, 1) := by decide +kernel
theorem d_X7_block_4 : decode (yB m_X7_block) 4 = .ok (.istore 6, 2) := by decide +kernel
theorem d_X7_block_6 : decode (yB m_X7_block) 6 = .ok (.iload 6, 2) := by decide +kernel
theorem d_X7_block_8 : decode (yB m_X7_block) 8 = .ok (.iload_n 2, 1) := by decide +kernel
theorem d_X7_block_9 : decode (yB m_X7_block) 9 = .ok (.iload 4, 2) := by decide +kernel
theorem d_X7_block_11 : decode (yB m_X7_block) 11 = .ok (.iadd, 1) := by decide +kernel
theorem d_X7_block_12 : decode (yB m_X7_block) 12 = .ok (.if_icmp .ge 29, 3) := by decide +kernel
theorem d_X7_block_15 : decode (yB m_X7_block) 15 = .ok (.iload 5, 2) := by decide +kernel
theorem d_X7_block_17 : decode (yB m_X7_block) 17 = .ok (.iconst 1, 1) := by decide +kernel
theorem d_X7_block_18 : decode (yB m_X7_block) 18 = .ok (.iload_n 3, 1) := by decide +kernel
theorem d_X7_block_19 : decode (yB m_X7_block) 19 = .ok (.ishl, 1) := by decide +kernel
theorem d_X7_block_20 : decode (yB m_X7_block) 20 = .ok (.iconst 1, 1) := by decide +kernel
theorem d_X7_block_21 : decode (yB m_X7_block) 21 = .ok (.isub, 1) := by decide +kernel
theorem d_X7_block_22 : decode (yB m_X7_block) 22 = .ok (.aload_n 0, 1) := by decide +kernel
theorem d_X7_block_23 : decode (yB m_X7_block) 23 = .ok (.getfield 34, 3) := by decide +kernel
theorem d_X7_block_26 : decode (yB m_X7_block) 26 = .ok (.iload 6, 2) := by decide +kernel
theorem d_X7_block_28 : decode (yB m_X7_block) 28 = .ok (.imul, 1) := by decide +kernel
theorem d_X7_block_29 : decode (yB m_X7_block) 29 = .ok (.iload_n 1, 1) := by decide +kernel
theorem d_X7_block_30 : decode (yB m_X7_block) 30 = .ok (.iadd, 1) := by decide +kernel
theorem d_X7_block_31 : decode (yB m_X7_block) 31 = .ok (.ishl, 1) := by decide +kernel
theorem d_X7_block_32 : decode (yB m_X7_block) 32 = .ok (.ior, 1) := by decide +kernel
theorem d_X7_block_33 : decode (yB m_X7_block) 33 = .ok (.istore 5, 2) := by decide +kernel
theorem d_X7_block_35 : decode (yB m_X7_block) 35 = .ok (.iinc 6 1, 3) := by decide +kernel
theorem d_X7_block_38 : decode (yB m_X7_block) 38 = .ok (.goto (-32), 3) := by decide +kernel
theorem d_X7_block_41 : decode (yB m_X7_block) 41 = .ok (.iload 5, 2) := by decide +kernel
theorem d_X7_block_43 : decode (yB m_X7_block) 43 = .ok (.ireturn, 1) := by decide +kernel
def fn_X7_block_6 (v1 : Int32) (v2 : Int32) (v3 : Int32) (v4 : Int32) (D : zD) : Nat → Int32 → Int32 → Option Int32
  | 0, _, _ => none
  | n + 1, v5, v6 => (if (v2 + v4) ≤ v6 then ((some v5)) else (zlet (v5 ||| ((((1 : Int32) <<< (v3 &&& 31)) - (1 : Int32)) <<< ((((gI D 22 4) * v6) + v1) &&& 31))) fun x2 => ((fn_X7_block_6 v1 v2 v3 v4 D n) x2 (v6 + (1 : Int32)))))
def fn_X7_block (v1 : Int32) (v2 : Int32) (v3 : Int32) (v4 : Int32) (D : zD) : Option Int32 := (fn_X7_block_6 v1 v2 v3 v4 D zFU (0 : Int32) v2)
theorem s_X7_block_6 {X : zX} {Sh : zSh} {d : Nat} (hst : (zl X).stackTraces = false) (h0 : zSh0 Sh) (hd : 0 ≤ d) {v1 : Int32} {v2 : Int32} {v3 : Int32} {v4 : Int32} (D : zD) : ∀ (n : Nat) (v5 : Int32) (v6 : Int32) , Rn X m_X7_block (d + 1) 6 [(0, .ref 22), (1, .int v1), (2, .int v2), (3, .int v3), (4, .int v4), (5, .int v5), (6, .int v6)] [] (Sh, D) ((oP Sh D) (fn_X7_block_6 v1 v2 v3 v4 D n v5 v6)) := by
  intro n
  induction n with
  | zero => intro v5 v6; exact Rn_none rfl
  | succ n hk6 =>
    intro v5 v6
    rw [fn_X7_block_6]
    refine r_iload (pc := 6) 6 d_X7_block_6 rfl ?_
    refine r_iload_n (pc := 8) 2 d_X7_block_8 rfl rfl ?_
    refine r_iload (pc := 9) 4 d_X7_block_9 rfl ?_
    refine r_iadd (pc := 11) d_X7_block_11 ?_
    refine r_icmp_ge (f := (oP Sh D)) (pc := 12) 41 d_X7_block_12 (by decide) (fun c1 => ?_) (fun c1 => ?_)
    · refine r_iload (pc := 41) 5 d_X7_block_41 rfl ?_
      exact r_iret (pc := 43) rfl d_X7_block_43
    · refine r_iload (pc := 15) 5 d_X7_block_15 rfl ?_
      refine r_iconst (pc := 17) (1 : Int32) d_X7_block_17 rfl ?_
      refine r_iload_n (pc := 18) 3 d_X7_block_18 rfl rfl ?_
      refine r_ishl (pc := 19) d_X7_block_19 ?_
      refine r_iconst (pc := 20) (1 : Int32) d_X7_block_20 rfl ?_
      refine r_isub (pc := 21) d_X7_block_21 ?_
      refine r_aload_n (pc := 22) 0 d_X7_block_22 rfl rfl ?_
      refine q_gI (pc := 23) g_X7_34 (K_22 h0) rfl d_X7_block_23 ?_
      refine r_iload (pc := 26) 6 d_X7_block_26 rfl ?_
      refine r_imul (pc := 28) d_X7_block_28 ?_
      refine r_iload_n (pc := 29) 1 d_X7_block_29 rfl rfl ?_
      refine r_iadd (pc := 30) d_X7_block_30 ?_
      refine r_ishl (pc := 31) d_X7_block_31 ?_
      refine r_ior (pc := 32) d_X7_block_32 ?_
      refine r_leti (f := (oP Sh D)) (fun x2 => ?_)
      refine r_istore (pc := 33) (ls' := [(5, .int x2), (0, .ref 22), (1, .int v1), (2, .int v2), (3, .int v3), (4, .int v4), (6, .int v6)]) d_X7_block_33 (Nat.le_of_ble_eq_true rfl) rfl ?_
      refine r_iinc (pc := 35) ((v6 + (1 : Int32))) 6 (ls' := [(6, .int (v6 + (1 : Int32))), (5, .int x2), (0, .ref 22), (1, .int v1), (2, .int v2), (3, .int v3), (4, .int v4)]) d_X7_block_35 rfl rfl (Nat.le_of_ble_eq_true rfl) rfl ?_
      refine r_goto (pc := 38) 6 d_X7_block_38 (by decide) ?_
      refine r_pick [2, 3, 4, 5, 6, 1, 0] (ls' := [(0, .ref 22), (1, .int v1), (2, .int v2), (3, .int v3), (4, .int v4), (5, .int x2), (6, .int (v6 + (1 : Int32)))]) rfl ?_
      exact hk6 x2 (v6 + (1 : Int32)) 
theorem s_X7_block {X : zX} {Sh : zSh} {d : Nat} (hst : (zl X).stackTraces = false) (h0 : zSh0 Sh) (hd : 1 ≤ d) {v1 : Int32} {v2 : Int32} {v3 : Int32} {v4 : Int32} {D : zD} : Sd X m_X7_block d [.ref 22, .int v1, .int v2, .int v3, .int v4] (Sh, D) ((oP Sh D) (fn_X7_block v1 v2 v3 v4 D)) := by
  obtain ⟨d, rfl⟩ : ∃ e, d = e + 1 := ⟨d - 1, by omega⟩
  replace hd : 0 ≤ d := by omega
  refine z_body ck_X7_block rfl (Nat.le_of_ble_eq_true rfl) rfl hst ?_
  rw [fn_X7_block]
  show Rn X m_X7_block (d + 1) 0 [(0, .ref 22), (1, .int v1), (2, .int v2), (3, .int v3), (4, .int v4)] [] (Sh, D) _
  refine r_iconst (pc := 0) (0 : Int32) d_X7_block_0 rfl ?_
  refine r_istore (pc := 1) (ls' := [(5, .int (0 : Int32)), (0, .ref 22), (1, .int v1), (2, .int v2), (3, .int v3), (4, .int v4)]) d_X7_block_1 (Nat.le_of_ble_eq_true rfl) rfl ?_
  refine r_iload_n (pc := 3) 3 d_X7_block_3 rfl rfl ?_
  refine r_istore (pc := 4) (ls' := [(6, .int v2), (5, .int (0 : Int32)), (0, .ref 22), (1, .int v1), (2, .int v2), (3, .int v3), (4, .int v4)]) d_X7_block_4 (Nat.le_of_ble_eq_true rfl) rfl ?_
  refine r_pick [2, 3, 4, 5, 6, 1, 0] (ls' := [(0, .ref 22), (1, .int v1), (2, .int v2), (3, .int v3), (4, .int v4), (5, .int (0 : Int32)), (6, .int v2)]) rfl ?_
  exact s_X7_block_6 hst h0 hd D zFU  (0 : Int32) v2
/-! CoveredSigns$RuleText.corner -/
theorem d_X7_corner_0 : decode (yB m_X7_corner) 0 = .ok (.aload_n 0, 1) := by decide +kernel
theorem d_X7_corner_1 : decode (yB m_X7_corner) 1 = .ok (.getfield 26, 3) := by decide +kernel
theorem d_X7_corner_4 : decode (yB m_X7_corner) 4 = .ok (.iconst 0, 1) := by decide +kernel
theorem d_X7_corner_5 : decode (yB m_X7_corner) 5 = .ok (.iconst 3, 1) := by decide +kernel
theorem d_X7_corner_6 : decode (yB m_X7_corner) 6 = .ok (.invokevirtual 119, 3) := by decide +kernel
theorem d_X7_corner_9 : decode (yB m_X7_corner) 9 = .ok (.istore_n 2, 1) := by decide +kernel
theorem d_X7_corner_10 : decode (yB m_X7_corner) 10 = .ok (.iload_n 2, 1) := by decide +kernel
theorem d_X7_corner_11 : decode (yB m_X7_corner) 11 = .ok (.iconst (-1), 1) := by decide +kernel
theorem d_X7_corner_12 : decode (yB m_X7_corner) 12 = .ok (.if_icmp .ne 5, 3) := by decide +kernel
theorem d_X7_corner_15 : decode (yB m_X7_corner) 15 = .ok (.iconst 0, 1) := by decide +kernel
theorem d_X7_corner_16 : decode (yB m_X7_corner) 16 = .ok (.ireturn, 1) := by decide +kernel
theorem d_X7_corner_17 : decode (yB m_X7_corner) 17 = .ok (.aload_n 0, 1) := by decide +kernel
theorem d_X7_corner_18 : decode (yB m_X7_corner) 18 = .ok (.getfield 26, 3) := by decide +kernel
theorem d_X7_corner_21 : decode (yB m_X7_corner) 21 = .ok (.iconst 1, 1) := by decide +kernel
theorem d_X7_corner_22 : decode (yB m_X7_corner) 22 = .ok (.aload_n 0, 1) := by decide +kernel
theorem d_X7_corner_23 : decode (yB m_X7_corner) 23 = .ok (.getfield 34, 3) := by decide +kernel
theorem d_X7_corner_26 : decode (yB m_X7_corner) 26 = .ok (.aload_n 0, 1) := by decide +kernel
theorem d_X7_corner_27 : decode (yB m_X7_corner) 27 = .ok (.getfield 38, 3) := by decide +kernel
theorem d_X7_corner_30 : decode (yB m_X7_corner) 30 = .ok (.invokestatic 131, 3) := by decide +kernel
theorem d_X7_corner_33 : decode (yB m_X7_corner) 33 = .ok (.invokevirtual 119, 3) := by decide +kernel
theorem d_X7_corner_36 : decode (yB m_X7_corner) 36 = .ok (.istore_n 3, 1) := by decide +kernel
theorem d_X7_corner_37 : decode (yB m_X7_corner) 37 = .ok (.iload_n 3, 1) := by decide +kernel
theorem d_X7_corner_38 : decode (yB m_X7_corner) 38 = .ok (.iconst (-1), 1) := by decide +kernel
theorem d_X7_corner_39 : decode (yB m_X7_corner) 39 = .ok (.if_icmp .ne 5, 3) := by decide +kernel
theorem d_X7_corner_42 : decode (yB m_X7_corner) 42 = .ok (.iconst 0, 1) := by decide +kernel
theorem d_X7_corner_43 : decode (yB m_X7_corner) 43 = .ok (.ireturn, 1) := by decide +kernel
theorem d_X7_corner_44 : decode (yB m_X7_corner) 44 = .ok (.aload_n 1, 1) := by decide +kernel
theorem d_X7_corner_45 : decode (yB m_X7_corner) 45 = .ok (.aload_n 0, 1) := by decide +kernel
theorem d_X7_corner_46 : decode (yB m_X7_corner) 46 = .ok (.iload_n 2, 1) := by decide +kernel
theorem d_X7_corner_47 : decode (yB m_X7_corner) 47 = .ok (.iconst 1, 1) := by decide +kernel
theorem d_X7_corner_48 : decode (yB m_X7_corner) 48 = .ok (.iand, 1) := by decide +kernel
theorem d_X7_corner_49 : decode (yB m_X7_corner) 49 = .ok (.ifCond .ne 7, 3) := by decide +kernel
theorem d_X7_corner_52 : decode (yB m_X7_corner) 52 = .ok (.iconst 0, 1) := by decide +kernel
theorem d_X7_corner_53 : decode (yB m_X7_corner) 53 = .ok (.goto 9, 3) := by decide +kernel
theorem d_X7_corner_56 : decode (yB m_X7_corner) 56 = .ok (.aload_n 0, 1) := by decide +kernel
theorem d_X7_corner_57 : decode (yB m_X7_corner) 57 = .ok (.getfield 34, 3) := by decide +kernel
theorem d_X7_corner_60 : decode (yB m_X7_corner) 60 = .ok (.iload_n 3, 1) := by decide +kernel
theorem d_X7_corner_61 : decode (yB m_X7_corner) 61 = .ok (.isub, 1) := by decide +kernel
theorem d_X7_corner_62 : decode (yB m_X7_corner) 62 = .ok (.iload_n 2, 1) := by decide +kernel
theorem d_X7_corner_63 : decode (yB m_X7_corner) 63 = .ok (.iconst 2, 1) := by decide +kernel
theorem d_X7_corner_64 : decode (yB m_X7_corner) 64 = .ok (.if_icmp .ge 7, 3) := by decide +kernel
theorem d_X7_corner_67 : decode (yB m_X7_corner) 67 = .ok (.iconst 0, 1) := by decide +kernel
theorem d_X7_corner_68 : decode (yB m_X7_corner) 68 = .ok (.goto 9, 3) := by decide +kernel
theorem d_X7_corner_71 : decode (yB m_X7_corner) 71 = .ok (.aload_n 0, 1) := by decide +kernel
theorem d_X7_corner_72 : decode (yB m_X7_corner) 72 = .ok (.getfield 38, 3) := by decide +kernel
theorem d_X7_corner_75 : decode (yB m_X7_corner) 75 = .ok (.iload_n 3, 1) := by decide +kernel
theorem d_X7_corner_76 : decode (yB m_X7_corner) 76 = .ok (.isub, 1) := by decide +kernel
theorem d_X7_corner_77 : decode (yB m_X7_corner) 77 = .ok (.iload_n 3, 1) := by decide +kernel
theorem d_X7_corner_78 : decode (yB m_X7_corner) 78 = .ok (.iload_n 3, 1) := by decide +kernel
theorem d_X7_corner_79 : decode (yB m_X7_corner) 79 = .ok (.invokevirtual 123, 3) := by decide +kernel
theorem d_X7_corner_82 : decode (yB m_X7_corner) 82 = .ok (.invokevirtual 127, 3) := by decide +kernel
theorem d_X7_corner_85 : decode (yB m_X7_corner) 85 = .ok (.iconst 1, 1) := by decide +kernel
theorem d_X7_corner_86 : decode (yB m_X7_corner) 86 = .ok (.ireturn, 1) := by decide +kernel
def fn_X7_corner_77 (a1 : Nat) (v3 : Int32) (w2 : Int32) (w3 : Int32) (D : zD) : Option (Int32 × zD) := (fn_X7_block w2 w3 v3 v3 D).bind fun x7 => (fn_X3_beOne a1 x7 D).bind fun D8 => (some ((1 : Int32), D8))
def fn_X7_corner_62 (a1 : Nat) (v2 : Int32) (v3 : Int32) (w2 : Int32) (D : zD) : Option (Int32 × zD) := (if (2 : Int32) ≤ v2 then ((fn_X7_corner_77 a1 v3 w2 ((gI D 22 5) - v3) D)) else ((fn_X7_corner_77 a1 v3 w2 (0 : Int32) D)))
def fn_X7_corner (a1 : Nat) (D : zD) : Option (Int32 × zD) := (fn_X8_number (0 : Int32) (3 : Int32) D).bind fun q1 => (if q1.1 = (-1 : Int32) then ((some ((0 : Int32), q1.2))) else ((fn_X8_number (1 : Int32) (zmn (gI q1.2 22 4) (gI q1.2 22 5)) q1.2).bind fun q3 => (if q3.1 = (-1 : Int32) then ((some ((0 : Int32), q3.2))) else ((if (q1.1 &&& (1 : Int32)) = 0 then ((fn_X7_corner_62 a1 q1.1 q3.1 (0 : Int32) q3.2)) else ((fn_X7_corner_62 a1 q1.1 q3.1 ((gI q3.2 22 4) - q3.1) q3.2)))))))
theorem s_X7_corner_77 {X : zX} {Sh : zSh} {d : Nat} (hst : (zl X).stackTraces = false) (h0 : zSh0 Sh) (hd : 2 ≤ d) {a1 : Nat} (h_a1 : a1 ∈ zI_3) (v3 : Int32) (w2 : Int32) (w3 : Int32) (D : zD)  : Rn X m_X7_corner (d + 1) 77 [(3, .int v3)] [.int w3, .int w2, .ref 22, .ref a1] (Sh, D) ((oI Sh) (fn_X7_corner_77 a1 v3 w2 w3 D)) := by
  rw [fn_X7_corner_77]
  refine r_iload_n (pc := 77) 0 d_X7_corner_77 rfl rfl ?_
  refine r_iload_n (pc := 78) 0 d_X7_corner_78 rfl rfl ?_
  refine q_cP (f := (oI Sh)) (av := [.ref 22, .int w2, .int w3, .int v3, .int v3]) (st := [.ref a1]) (z_runV ck_X7_block rfl ml_X7_123 ci_X7_block cv_X7_block (K_22 h0) (ci := 7) rfl rfl (Nat.le_of_ble_eq_true rfl) d_X7_corner_79) (s_X7_block hst h0 (by omega)) kp_I (fun x7 _ => ?_)
  refine q_cV (f := (oI Sh)) (av := [.ref a1, .int x7]) (st := []) (z_runV ck_X3_beOne rfl ml_X7_127 ci_X3_beOne cv_X3_beOne (LK_3 h0 h_a1) (ci := 3) rfl rfl (Nat.le_of_ble_eq_true rfl) d_X7_corner_82) (s_X3_beOne hst h0 (by omega) h_a1) kp_I (fun D8 _ => ?_)
  refine r_iconst (pc := 85) (1 : Int32) d_X7_corner_85 rfl ?_
  exact r_zret (pc := 86) rfl (by decide) d_X7_corner_86
theorem s_X7_corner_62 {X : zX} {Sh : zSh} {d : Nat} (hst : (zl X).stackTraces = false) (h0 : zSh0 Sh) (hd : 2 ≤ d) {a1 : Nat} (h_a1 : a1 ∈ zI_3) (v2 : Int32) (v3 : Int32) (w2 : Int32) (D : zD)  : Rn X m_X7_corner (d + 1) 62 [(0, .ref 22), (2, .int v2), (3, .int v3)] [.int w2, .ref 22, .ref a1] (Sh, D) ((oI Sh) (fn_X7_corner_62 a1 v2 v3 w2 D)) := by
  rw [fn_X7_corner_62]
  refine r_iload_n (pc := 62) 1 d_X7_corner_62 rfl rfl ?_
  refine r_iconst (pc := 63) (2 : Int32) d_X7_corner_63 rfl ?_
  refine r_icmp_ge (f := (oI Sh)) (pc := 64) 71 d_X7_corner_64 (by decide) (fun c6 => ?_) (fun c6 => ?_)
  · refine r_aload_n (pc := 71) 0 d_X7_corner_71 rfl rfl ?_
    refine q_gI (pc := 72) g_X7_38 (K_22 h0) rfl d_X7_corner_72 ?_
    refine r_iload_n (pc := 75) 2 d_X7_corner_75 rfl rfl ?_
    refine r_isub (pc := 76) d_X7_corner_76 ?_
    refine r_pick [2] (ls' := [(3, .int v3)]) rfl ?_
    exact s_X7_corner_77 hst h0 hd h_a1 v3 w2 ((gI D 22 5) - v3) D
  · refine r_iconst (pc := 67) (0 : Int32) d_X7_corner_67 rfl ?_
    refine r_goto (pc := 68) 77 d_X7_corner_68 (by decide) ?_
    refine r_pick [2] (ls' := [(3, .int v3)]) rfl ?_
    exact s_X7_corner_77 hst h0 hd h_a1 v3 w2 (0 : Int32) D
theorem s_X7_corner {X : zX} {Sh : zSh} {d : Nat} (hst : (zl X).stackTraces = false) (h0 : zSh0 Sh) (hd : 3 ≤ d) {a1 : Nat} (h_a1 : a1 ∈ zI_3) {D : zD} : Sd X m_X7_corner d [.ref 22, .ref a1] (Sh, D) ((oI Sh) (fn_X7_corner a1 D)) := by
  obtain ⟨d, rfl⟩ : ∃ e, d = e + 1 := ⟨d - 1, by omega⟩
  replace hd : 2 ≤ d := by omega
  refine z_body ck_X7_corner rfl (Nat.le_of_ble_eq_true rfl) rfl hst ?_
  rw [fn_X7_corner]
  show Rn X m_X7_corner (d + 1) 0 [(0, .ref 22), (1, .ref a1)] [] (Sh, D) _
  refine r_aload_n (pc := 0) 0 d_X7_corner_0 rfl rfl ?_
  refine r_getR (pc := 1) g_X7_26 (K_22 h0) rfl (R_22_0 h0) d_X7_corner_1 ?_
  refine r_iconst (pc := 4) (0 : Int32) d_X7_corner_4 rfl ?_
  refine r_iconst (pc := 5) (3 : Int32) d_X7_corner_5 rfl ?_
  refine q_cI (f := (oI Sh)) (av := [.ref 2, .int (0 : Int32), .int (3 : Int32)]) (st := []) (z_runV ck_X8_number rfl ml_X7_119 ci_X8_number cv_X8_number (K_2 h0) (ci := 8) rfl rfl (Nat.le_of_ble_eq_true rfl) d_X7_corner_6) (s_X8_number hst h0 (by omega)) kp_I (fun q1 _ => ?_)
  refine r_istore_n (pc := 9) (ls' := [(2, .int q1.1), (0, .ref 22), (1, .ref a1)]) d_X7_corner_9 rfl (Nat.le_of_ble_eq_true rfl) rfl ?_
  refine r_iload_n (pc := 10) 0 d_X7_corner_10 rfl rfl ?_
  refine r_iconst (pc := 11) (-1 : Int32) d_X7_corner_11 rfl ?_
  refine r_icmp_ne (f := (oI Sh)) (pc := 12) 17 d_X7_corner_12 (by decide) (fun c2 => ?_) (fun c2 => ?_)
  · refine r_aload_n (pc := 17) 1 d_X7_corner_17 rfl rfl ?_
    refine r_getR (pc := 18) g_X7_26 (K_22 h0) rfl (R_22_0 h0) d_X7_corner_18 ?_
    refine r_iconst (pc := 21) (1 : Int32) d_X7_corner_21 rfl ?_
    refine r_aload_n (pc := 22) 1 d_X7_corner_22 rfl rfl ?_
    refine q_gI (pc := 23) g_X7_34 (K_22 h0) rfl d_X7_corner_23 ?_
    refine r_aload_n (pc := 26) 1 d_X7_corner_26 rfl rfl ?_
    refine q_gI (pc := 27) g_X7_38 (K_22 h0) rfl d_X7_corner_27 ?_
    refine r_mmin (pc := 30) ml_X7_131 (by omega) (Nat.le_of_ble_eq_true rfl) d_X7_corner_30 ?_
    refine q_cI (f := (oI Sh)) (av := [.ref 2, .int (1 : Int32), .int (zmn (gI q1.2 22 4) (gI q1.2 22 5))]) (st := []) (z_runV ck_X8_number rfl ml_X7_119 ci_X8_number cv_X8_number (K_2 h0) (ci := 8) rfl rfl (Nat.le_of_ble_eq_true rfl) d_X7_corner_33) (s_X8_number hst h0 (by omega)) kp_I (fun q3 _ => ?_)
    refine r_istore_n (pc := 36) (ls' := [(3, .int q3.1), (2, .int q1.1), (0, .ref 22), (1, .ref a1)]) d_X7_corner_36 rfl (Nat.le_of_ble_eq_true rfl) rfl ?_
    refine r_iload_n (pc := 37) 0 d_X7_corner_37 rfl rfl ?_
    refine r_iconst (pc := 38) (-1 : Int32) d_X7_corner_38 rfl ?_
    refine r_icmp_ne (f := (oI Sh)) (pc := 39) 44 d_X7_corner_39 (by decide) (fun c4 => ?_) (fun c4 => ?_)
    · refine r_aload_n (pc := 44) 3 d_X7_corner_44 rfl rfl ?_
      refine r_aload_n (pc := 45) 2 d_X7_corner_45 rfl rfl ?_
      refine r_iload_n (pc := 46) 1 d_X7_corner_46 rfl rfl ?_
      refine r_iconst (pc := 47) (1 : Int32) d_X7_corner_47 rfl ?_
      refine r_iand (pc := 48) d_X7_corner_48 ?_
      refine r_if_ne (f := (oI Sh)) (pc := 49) 56 d_X7_corner_49 (by decide) (fun c5 => ?_) (fun c5 => ?_)
      · refine r_aload_n (pc := 56) 2 d_X7_corner_56 rfl rfl ?_
        refine q_gI (pc := 57) g_X7_34 (K_22 h0) rfl d_X7_corner_57 ?_
        refine r_iload_n (pc := 60) 0 d_X7_corner_60 rfl rfl ?_
        refine r_isub (pc := 61) d_X7_corner_61 ?_
        refine r_pick [2, 1, 0] (ls' := [(0, .ref 22), (2, .int q1.1), (3, .int q3.1)]) rfl ?_
        exact s_X7_corner_62 hst h0 hd h_a1 q1.1 q3.1 ((gI q3.2 22 4) - q3.1) q3.2
      · refine r_iconst (pc := 52) (0 : Int32) d_X7_corner_52 rfl ?_
        refine r_goto (pc := 53) 62 d_X7_corner_53 (by decide) ?_
        refine r_pick [2, 1, 0] (ls' := [(0, .ref 22), (2, .int q1.1), (3, .int q3.1)]) rfl ?_
        exact s_X7_corner_62 hst h0 hd h_a1 q1.1 q3.1 (0 : Int32) q3.2
    · refine r_iconst (pc := 42) (0 : Int32) d_X7_corner_42 rfl ?_
      exact r_zret (pc := 43) rfl (by decide) d_X7_corner_43
  · refine r_iconst (pc := 15) (0 : Int32) d_X7_corner_15 rfl ?_
    exact r_zret (pc := 16) rfl (by decide) d_X7_corner_16
/-! CoveredSigns$RuleText.fog -/
theorem d_X7_fog_0 : decode (yB m_X7_fog) 0 = .ok (.aload_n 0, 1) := by decide +kernel
theorem d_X7_fog_1 : decode (yB m_X7_fog) 1 = .ok (.getfield 26, 3) := by decide +kernel
theorem d_X7_fog_4 : decode (yB m_X7_fog) 4 = .ok (.iconst 0, 1) := by decide +kernel
theorem d_X7_fog_5 : decode (yB m_X7_fog) 5 = .ok (.iconst 1, 1) := by decide +kernel
theorem d_X7_fog_6 : decode (yB m_X7_fog) 6 = .ok (.invokevirtual 119, 3) := by decide +kernel
theorem d_X7_fog_9 : decode (yB m_X7_fog) 9 = .ok (.istore_n 2, 1) := by decide +kernel
theorem d_X7_fog_10 : decode (yB m_X7_fog) 10 = .ok (.iload_n 2, 1) := by decide +kernel
theorem d_X7_fog_11 : decode (yB m_X7_fog) 11 = .ok (.iconst (-1), 1) := by decide +kernel
theorem d_X7_fog_12 : decode (yB m_X7_fog) 12 = .ok (.if_icmp .ne 5, 3) := by decide +kernel
theorem d_X7_fog_15 : decode (yB m_X7_fog) 15 = .ok (.iconst 0, 1) := by decide +kernel
theorem d_X7_fog_16 : decode (yB m_X7_fog) 16 = .ok (.ireturn, 1) := by decide +kernel
theorem d_X7_fog_17 : decode (yB m_X7_fog) 17 = .ok (.iconst 0, 1) := by decide +kernel
theorem d_X7_fog_18 : decode (yB m_X7_fog) 18 = .ok (.istore_n 3, 1) := by decide +kernel
theorem d_X7_fog_19 : decode (yB m_X7_fog) 19 = .ok (.iconst 0, 1) := by decide +kernel
theorem d_X7_fog_20 : decode (yB m_X7_fog) 20 = .ok (.istore 4, 2) := by decide +kernel
theorem d_X7_fog_22 : decode (yB m_X7_fog) 22 = .ok (.iload 4, 2) := by decide +kernel
theorem d_X7_fog_24 : decode (yB m_X7_fog) 24 = .ok (.aload_n 0, 1) := by decide +kernel
theorem d_X7_fog_25 : decode (yB m_X7_fog) 25 = .ok (.getfield 38, 3) := by decide +kernel
theorem d_X7_fog_28 : decode (yB m_X7_fog) 28 = .ok (.if_icmp .ge 53, 3) := by decide +kernel
theorem d_X7_fog_31 : decode (yB m_X7_fog) 31 = .ok (.iconst 0, 1) := by decide +kernel
theorem d_X7_fog_32 : decode (yB m_X7_fog) 32 = .ok (.istore 5, 2) := by decide +kernel
theorem d_X7_fog_34 : decode (yB m_X7_fog) 34 = .ok (.iload 5, 2) := by decide +kernel
theorem d_X7_fog_36 : decode (yB m_X7_fog) 36 = .ok (.aload_n 0, 1) := by decide +kernel
theorem d_X7_fog_37 : decode (yB m_X7_fog) 37 = .ok (.getfield 34, 3) := by decide +kernel
theorem d_X7_fog_40 : decode (yB m_X7_fog) 40 = .ok (.if_icmp .ge 35, 3) := by decide +kernel
theorem d_X7_fog_43 : decode (yB m_X7_fog) 43 = .ok (.iload 5, 2) := by decide +kernel
theorem d_X7_fog_45 : decode (yB m_X7_fog) 45 = .ok (.iload 4, 2) := by decide +kernel
theorem d_X7_fog_47 : decode (yB m_X7_fog) 47 = .ok (.iadd, 1) := by decide +kernel
theorem d_X7_fog_48 : decode (yB m_X7_fog) 48 = .ok (.iconst 1, 1) := by decide +kernel
theorem d_X7_fog_49 : decode (yB m_X7_fog) 49 = .ok (.iand, 1) := by decide +kernel
theorem d_X7_fog_50 : decode (yB m_X7_fog) 50 = .ok (.iload_n 2, 1) := by decide +kernel
theorem d_X7_fog_51 : decode (yB m_X7_fog) 51 = .ok (.if_icmp .ne 18, 3) := by decide +kernel
theorem d_X7_fog_54 : decode (yB m_X7_fog) 54 = .ok (.iload_n 3, 1) := by decide +kernel
theorem d_X7_fog_55 : decode (yB m_X7_fog) 55 = .ok (.iconst 1, 1) := by decide +kernel
theorem d_X7_fog_56 : decode (yB m_X7_fog) 56 = .ok (.aload_n 0, 1) := by decide +kernel
theorem d_X7_fog_57 : decode (yB m_X7_fog) 57 = .ok (.getfield 34, 3) := by decide +kernel
theorem d_X7_fog_60 : decode (yB m_X7_fog) 60 = .ok (.iload 4, 2) := by decide +kernel
theorem d_X7_fog_62 : decode (yB m_X7_fog) 62 = .ok (.imul, 1) := by decide +kernel
theorem d_X7_fog_63 : decode (yB m_X7_fog) 63 = .ok (.iload 5, 2) := by decide +kernel
theorem d_X7_fog_65 : decode (yB m_X7_fog) 65 = .ok (.iadd, 1) := by decide +kernel
theorem d_X7_fog_66 : decode (yB m_X7_fog) 66 = .ok (.ishl, 1) := by decide +kernel
theorem d_X7_fog_67 : decode (yB m_X7_fog) 67 = .ok (.ior, 1) := by decide +kernel
theorem d_X7_fog_68 : decode (yB m_X7_fog) 68 = .ok (.istore_n 3, 1) := by decide +kernel
theorem d_X7_fog_69 : decode (yB m_X7_fog) 69 = .ok (.iinc 5 1, 3) := by decide +kernel
theorem d_X7_fog_72 : decode (yB m_X7_fog) 72 = .ok (.goto (-38), 3) := by decide +kernel
theorem d_X7_fog_75 : decode (yB m_X7_fog) 75 = .ok (.iinc 4 1, 3) := by decide +kernel
theorem d_X7_fog_78 : decode (yB m_X7_fog) 78 = .ok (.goto (-56), 3) := by decide +kernel
theorem d_X7_fog_81 : decode (yB m_X7_fog) 81 = .ok (.aload_n 1, 1) := by decide +kernel
theorem d_X7_fog_82 : decode (yB m_X7_fog) 82 = .ok (.iload_n 3, 1) := by decide +kernel
theorem d_X7_fog_83 : decode (yB m_X7_fog) 83 = .ok (.invokevirtual 127, 3) := by decide +kernel
theorem d_X7_fog_86 : decode (yB m_X7_fog) 86 = .ok (.iconst 1, 1) := by decide +kernel
theorem d_X7_fog_87 : decode (yB m_X7_fog) 87 = .ok (.ireturn, 1) := by decide +kernel
def fn_X7_fog_34 (a1 : Nat) (k22 : Int32 → Int32 → Int32 → zD → Option (Int32 × zD)) : Nat → Int32 → Int32 → Int32 → Int32 → zD → Option (Int32 × zD)
  | 0, _, _, _, _, _ => none
  | n + 1, v2, v3, v4, v5, D => (if (gI D 22 4) ≤ v5 then ((k22 v2 v3 (v4 + (1 : Int32)) D)) else ((if ((v5 + v4) &&& (1 : Int32)) = v2 then (zlet (v3 ||| ((1 : Int32) <<< ((((gI D 22 4) * v4) + v5) &&& 31))) fun x7 => ((fn_X7_fog_34 a1 k22 n) v2 x7 v4 (v5 + (1 : Int32)) D)) else (((fn_X7_fog_34 a1 k22 n) v2 v3 v4 (v5 + (1 : Int32)) D)))))
def fn_X7_fog_22 (a1 : Nat) : Nat → Int32 → Int32 → Int32 → zD → Option (Int32 × zD)
  | 0, _, _, _, _ => none
  | n + 1, v2, v3, v4, D => (if (gI D 22 5) ≤ v4 then ((fn_X3_beOne a1 v3 D).bind fun D4 => (some ((1 : Int32), D4))) else ((fn_X7_fog_34 a1 (fn_X7_fog_22 a1 n) zFU v2 v3 v4 (0 : Int32) D)))
def fn_X7_fog (a1 : Nat) (D : zD) : Option (Int32 × zD) := (fn_X8_number (0 : Int32) (1 : Int32) D).bind fun q1 => (if q1.1 = (-1 : Int32) then ((some ((0 : Int32), q1.2))) else ((fn_X7_fog_22 a1 zFU q1.1 (0 : Int32) (0 : Int32) q1.2)))
theorem s_X7_fog_34 {X : zX} {Sh : zSh} {d : Nat} (hst : (zl X).stackTraces = false) (h0 : zSh0 Sh) (hd : 2 ≤ d) {a1 : Nat} (h_a1 : a1 ∈ zI_3) (k22 : Int32 → Int32 → Int32 → zD → Option (Int32 × zD)) (hk22 : ∀ (v2 : Int32) (v3 : Int32) (v4 : Int32) (D : zD) , Rn X m_X7_fog (d + 1) 22 [(0, .ref 22), (1, .ref a1), (2, .int v2), (3, .int v3), (4, .int v4)] [] (Sh, D) ((oI Sh) (k22 v2 v3 v4 D))) : ∀ (n : Nat) (v2 : Int32) (v3 : Int32) (v4 : Int32) (v5 : Int32) (D : zD) , Rn X m_X7_fog (d + 1) 34 [(0, .ref 22), (1, .ref a1), (2, .int v2), (3, .int v3), (4, .int v4), (5, .int v5)] [] (Sh, D) ((oI Sh) (fn_X7_fog_34 a1 k22 n v2 v3 v4 v5 D)) := by
  intro n
  induction n with
  | zero => intro v2 v3 v4 v5 D; exact Rn_none rfl
  | succ n hk34 =>
    intro v2 v3 v4 v5 D
    rw [fn_X7_fog_34]
    refine r_iload (pc := 34) 5 d_X7_fog_34 rfl ?_
    refine r_aload_n (pc := 36) 0 d_X7_fog_36 rfl rfl ?_
    refine q_gI (pc := 37) g_X7_34 (K_22 h0) rfl d_X7_fog_37 ?_
    refine r_icmp_ge (f := (oI Sh)) (pc := 40) 75 d_X7_fog_40 (by decide) (fun c5 => ?_) (fun c5 => ?_)
    · refine r_iinc (pc := 75) ((v4 + (1 : Int32))) 4 (ls' := [(4, .int (v4 + (1 : Int32))), (0, .ref 22), (1, .ref a1), (2, .int v2), (3, .int v3), (5, .int v5)]) d_X7_fog_75 rfl rfl (Nat.le_of_ble_eq_true rfl) rfl ?_
      refine r_goto (pc := 78) 22 d_X7_fog_78 (by decide) ?_
      refine r_pick [1, 2, 3, 4, 0] (ls' := [(0, .ref 22), (1, .ref a1), (2, .int v2), (3, .int v3), (4, .int (v4 + (1 : Int32)))]) rfl ?_
      exact hk22 v2 v3 (v4 + (1 : Int32)) D 
    · refine r_iload (pc := 43) 5 d_X7_fog_43 rfl ?_
      refine r_iload (pc := 45) 4 d_X7_fog_45 rfl ?_
      refine r_iadd (pc := 47) d_X7_fog_47 ?_
      refine r_iconst (pc := 48) (1 : Int32) d_X7_fog_48 rfl ?_
      refine r_iand (pc := 49) d_X7_fog_49 ?_
      refine r_iload_n (pc := 50) 2 d_X7_fog_50 rfl rfl ?_
      refine r_icmp_ne (f := (oI Sh)) (pc := 51) 69 d_X7_fog_51 (by decide) (fun c6 => ?_) (fun c6 => ?_)
      · refine r_iinc (pc := 69) ((v5 + (1 : Int32))) 5 (ls' := [(5, .int (v5 + (1 : Int32))), (0, .ref 22), (1, .ref a1), (2, .int v2), (3, .int v3), (4, .int v4)]) d_X7_fog_69 rfl rfl (Nat.le_of_ble_eq_true rfl) rfl ?_
        refine r_goto (pc := 72) 34 d_X7_fog_72 (by decide) ?_
        refine r_pick [1, 2, 3, 4, 5, 0] (ls' := [(0, .ref 22), (1, .ref a1), (2, .int v2), (3, .int v3), (4, .int v4), (5, .int (v5 + (1 : Int32)))]) rfl ?_
        exact hk34 v2 v3 v4 (v5 + (1 : Int32)) D 
      · refine r_iload_n (pc := 54) 3 d_X7_fog_54 rfl rfl ?_
        refine r_iconst (pc := 55) (1 : Int32) d_X7_fog_55 rfl ?_
        refine r_aload_n (pc := 56) 0 d_X7_fog_56 rfl rfl ?_
        refine q_gI (pc := 57) g_X7_34 (K_22 h0) rfl d_X7_fog_57 ?_
        refine r_iload (pc := 60) 4 d_X7_fog_60 rfl ?_
        refine r_imul (pc := 62) d_X7_fog_62 ?_
        refine r_iload (pc := 63) 5 d_X7_fog_63 rfl ?_
        refine r_iadd (pc := 65) d_X7_fog_65 ?_
        refine r_ishl (pc := 66) d_X7_fog_66 ?_
        refine r_ior (pc := 67) d_X7_fog_67 ?_
        refine r_leti (f := (oI Sh)) (fun x7 => ?_)
        refine r_istore_n (pc := 68) (ls' := [(3, .int x7), (0, .ref 22), (1, .ref a1), (2, .int v2), (4, .int v4), (5, .int v5)]) d_X7_fog_68 rfl (Nat.le_of_ble_eq_true rfl) rfl ?_
        refine r_iinc (pc := 69) ((v5 + (1 : Int32))) 5 (ls' := [(5, .int (v5 + (1 : Int32))), (3, .int x7), (0, .ref 22), (1, .ref a1), (2, .int v2), (4, .int v4)]) d_X7_fog_69 rfl rfl (Nat.le_of_ble_eq_true rfl) rfl ?_
        refine r_goto (pc := 72) 34 d_X7_fog_72 (by decide) ?_
        refine r_pick [2, 3, 4, 1, 5, 0] (ls' := [(0, .ref 22), (1, .ref a1), (2, .int v2), (3, .int x7), (4, .int v4), (5, .int (v5 + (1 : Int32)))]) rfl ?_
        exact hk34 v2 x7 v4 (v5 + (1 : Int32)) D 
theorem s_X7_fog_22 {X : zX} {Sh : zSh} {d : Nat} (hst : (zl X).stackTraces = false) (h0 : zSh0 Sh) (hd : 2 ≤ d) {a1 : Nat} (h_a1 : a1 ∈ zI_3) : ∀ (n : Nat) (v2 : Int32) (v3 : Int32) (v4 : Int32) (D : zD) , Rn X m_X7_fog (d + 1) 22 [(0, .ref 22), (1, .ref a1), (2, .int v2), (3, .int v3), (4, .int v4)] [] (Sh, D) ((oI Sh) (fn_X7_fog_22 a1 n v2 v3 v4 D)) := by
  intro n
  induction n with
  | zero => intro v2 v3 v4 D; exact Rn_none rfl
  | succ n hk22 =>
    intro v2 v3 v4 D
    rw [fn_X7_fog_22]
    refine r_iload (pc := 22) 4 d_X7_fog_22 rfl ?_
    refine r_aload_n (pc := 24) 0 d_X7_fog_24 rfl rfl ?_
    refine q_gI (pc := 25) g_X7_38 (K_22 h0) rfl d_X7_fog_25 ?_
    refine r_icmp_ge (f := (oI Sh)) (pc := 28) 81 d_X7_fog_28 (by decide) (fun c3 => ?_) (fun c3 => ?_)
    · refine r_aload_n (pc := 81) 1 d_X7_fog_81 rfl rfl ?_
      refine r_iload_n (pc := 82) 3 d_X7_fog_82 rfl rfl ?_
      refine q_cV (f := (oI Sh)) (av := [.ref a1, .int v3]) (st := []) (z_runV ck_X3_beOne rfl ml_X7_127 ci_X3_beOne cv_X3_beOne (LK_3 h0 h_a1) (ci := 3) rfl rfl (Nat.le_of_ble_eq_true rfl) d_X7_fog_83) (s_X3_beOne hst h0 (by omega) h_a1) kp_I (fun D4 _ => ?_)
      refine r_iconst (pc := 86) (1 : Int32) d_X7_fog_86 rfl ?_
      exact r_zret (pc := 87) rfl (by decide) d_X7_fog_87
    · refine r_iconst (pc := 31) (0 : Int32) d_X7_fog_31 rfl ?_
      refine r_istore (pc := 32) (ls' := [(5, .int (0 : Int32)), (0, .ref 22), (1, .ref a1), (2, .int v2), (3, .int v3), (4, .int v4)]) d_X7_fog_32 (Nat.le_of_ble_eq_true rfl) rfl ?_
      refine r_pick [1, 2, 3, 4, 5, 0] (ls' := [(0, .ref 22), (1, .ref a1), (2, .int v2), (3, .int v3), (4, .int v4), (5, .int (0 : Int32))]) rfl ?_
      exact s_X7_fog_34 hst h0 hd h_a1 (fn_X7_fog_22 a1 n) hk22 zFU  v2 v3 v4 (0 : Int32) D
theorem s_X7_fog {X : zX} {Sh : zSh} {d : Nat} (hst : (zl X).stackTraces = false) (h0 : zSh0 Sh) (hd : 3 ≤ d) {a1 : Nat} (h_a1 : a1 ∈ zI_3) {D : zD} : Sd X m_X7_fog d [.ref 22, .ref a1] (Sh, D) ((oI Sh) (fn_X7_fog a1 D)) := by
  obtain ⟨d, rfl⟩ : ∃ e, d = e + 1 := ⟨d - 1, by omega⟩
  replace hd : 2 ≤ d := by omega
  refine z_body ck_X7_fog rfl (Nat.le_of_ble_eq_true rfl) rfl hst ?_
  rw [fn_X7_fog]
  show Rn X m_X7_fog (d + 1) 0 [(0, .ref 22), (1, .ref a1)] [] (Sh, D) _
  refine r_aload_n (pc := 0) 0 d_X7_fog_0 rfl rfl ?_
  refine r_getR (pc := 1) g_X7_26 (K_22 h0) rfl (R_22_0 h0) d_X7_fog_1 ?_
  refine r_iconst (pc := 4) (0 : Int32) d_X7_fog_4 rfl ?_
  refine r_iconst (pc := 5) (1 : Int32) d_X7_fog_5 rfl ?_
  refine q_cI (f := (oI Sh)) (av := [.ref 2, .int (0 : Int32), .int (1 : Int32)]) (st := []) (z_runV ck_X8_number rfl ml_X7_119 ci_X8_number cv_X8_number (K_2 h0) (ci := 8) rfl rfl (Nat.le_of_ble_eq_true rfl) d_X7_fog_6) (s_X8_number hst h0 (by omega)) kp_I (fun q1 _ => ?_)
  refine r_istore_n (pc := 9) (ls' := [(2, .int q1.1), (0, .ref 22), (1, .ref a1)]) d_X7_fog_9 rfl (Nat.le_of_ble_eq_true rfl) rfl ?_
  refine r_iload_n (pc := 10) 0 d_X7_fog_10 rfl rfl ?_
  refine r_iconst (pc := 11) (-1 : Int32) d_X7_fog_11 rfl ?_
  refine r_icmp_ne (f := (oI Sh)) (pc := 12) 17 d_X7_fog_12 (by decide) (fun c2 => ?_) (fun c2 => ?_)
  · refine r_iconst (pc := 17) (0 : Int32) d_X7_fog_17 rfl ?_
    refine r_istore_n (pc := 18) (ls' := [(3, .int (0 : Int32)), (2, .int q1.1), (0, .ref 22), (1, .ref a1)]) d_X7_fog_18 rfl (Nat.le_of_ble_eq_true rfl) rfl ?_
    refine r_iconst (pc := 19) (0 : Int32) d_X7_fog_19 rfl ?_
    refine r_istore (pc := 20) (ls' := [(4, .int (0 : Int32)), (3, .int (0 : Int32)), (2, .int q1.1), (0, .ref 22), (1, .ref a1)]) d_X7_fog_20 (Nat.le_of_ble_eq_true rfl) rfl ?_
    refine r_pick [3, 4, 2, 1, 0] (ls' := [(0, .ref 22), (1, .ref a1), (2, .int q1.1), (3, .int (0 : Int32)), (4, .int (0 : Int32))]) rfl ?_
    exact s_X7_fog_22 hst h0 hd h_a1 zFU  q1.1 (0 : Int32) (0 : Int32) q1.2
  · refine r_iconst (pc := 15) (0 : Int32) d_X7_fog_15 rfl ?_
    exact r_zret (pc := 16) rfl (by decide) d_X7_fog_16
/-! CoveredSigns$RuleText.front -/
theorem d_X7_front_0 : decode (yB m_X7_front) 0 = .ok (.aload_n 0, 1) := by decide +kernel
theorem d_X7_front_1 : decode (yB m_X7_front) 1 = .ok (.getfield 26, 3) := by decide +kernel
theorem d_X7_front_4 : decode (yB m_X7_front) 4 = .ok (.iconst 0, 1) := by decide +kernel
theorem d_X7_front_5 : decode (yB m_X7_front) 5 = .ok (.aload_n 0, 1) := by decide +kernel
theorem d_X7_front_6 : decode (yB m_X7_front) 6 = .ok (.getfield 34, 3) := by decide +kernel
theorem d_X7_front_9 : decode (yB m_X7_front) 9 = .ok (.iconst 1, 1) := by decide +kernel
theorem d_X7_front_10 : decode (yB m_X7_front) 10 = .ok (.isub, 1) := by decide +kernel
theorem d_X7_front_11 : decode (yB m_X7_front) 11 = .ok (.invokevirtual 119, 3) := by decide +kernel
theorem d_X7_front_14 : decode (yB m_X7_front) 14 = .ok (.istore_n 2, 1) := by decide +kernel
theorem d_X7_front_15 : decode (yB m_X7_front) 15 = .ok (.iload_n 2, 1) := by decide +kernel
theorem d_X7_front_16 : decode (yB m_X7_front) 16 = .ok (.iconst (-1), 1) := by decide +kernel
theorem d_X7_front_17 : decode (yB m_X7_front) 17 = .ok (.if_icmp .ne 5, 3) := by decide +kernel
theorem d_X7_front_20 : decode (yB m_X7_front) 20 = .ok (.iconst 0, 1) := by decide +kernel
theorem d_X7_front_21 : decode (yB m_X7_front) 21 = .ok (.ireturn, 1) := by decide +kernel
theorem d_X7_front_22 : decode (yB m_X7_front) 22 = .ok (.aload_n 0, 1) := by decide +kernel
theorem d_X7_front_23 : decode (yB m_X7_front) 23 = .ok (.getfield 26, 3) := by decide +kernel
theorem d_X7_front_26 : decode (yB m_X7_front) 26 = .ok (.iconst 0, 1) := by decide +kernel
theorem d_X7_front_27 : decode (yB m_X7_front) 27 = .ok (.aload_n 0, 1) := by decide +kernel
theorem d_X7_front_28 : decode (yB m_X7_front) 28 = .ok (.getfield 38, 3) := by decide +kernel
theorem d_X7_front_31 : decode (yB m_X7_front) 31 = .ok (.iconst 1, 1) := by decide +kernel
theorem d_X7_front_32 : decode (yB m_X7_front) 32 = .ok (.isub, 1) := by decide +kernel
theorem d_X7_front_33 : decode (yB m_X7_front) 33 = .ok (.invokevirtual 119, 3) := by decide +kernel
theorem d_X7_front_36 : decode (yB m_X7_front) 36 = .ok (.istore_n 3, 1) := by decide +kernel
theorem d_X7_front_37 : decode (yB m_X7_front) 37 = .ok (.iload_n 3, 1) := by decide +kernel
theorem d_X7_front_38 : decode (yB m_X7_front) 38 = .ok (.iconst (-1), 1) := by decide +kernel
theorem d_X7_front_39 : decode (yB m_X7_front) 39 = .ok (.if_icmp .ne 5, 3) := by decide +kernel
theorem d_X7_front_42 : decode (yB m_X7_front) 42 = .ok (.iconst 0, 1) := by decide +kernel
theorem d_X7_front_43 : decode (yB m_X7_front) 43 = .ok (.ireturn, 1) := by decide +kernel
theorem d_X7_front_44 : decode (yB m_X7_front) 44 = .ok (.aload_n 0, 1) := by decide +kernel
theorem d_X7_front_45 : decode (yB m_X7_front) 45 = .ok (.getfield 26, 3) := by decide +kernel
theorem d_X7_front_48 : decode (yB m_X7_front) 48 = .ok (.iconst 1, 1) := by decide +kernel
theorem d_X7_front_49 : decode (yB m_X7_front) 49 = .ok (.aload_n 0, 1) := by decide +kernel
theorem d_X7_front_50 : decode (yB m_X7_front) 50 = .ok (.getfield 34, 3) := by decide +kernel
theorem d_X7_front_53 : decode (yB m_X7_front) 53 = .ok (.iload_n 2, 1) := by decide +kernel
theorem d_X7_front_54 : decode (yB m_X7_front) 54 = .ok (.isub, 1) := by decide +kernel
theorem d_X7_front_55 : decode (yB m_X7_front) 55 = .ok (.invokevirtual 119, 3) := by decide +kernel
theorem d_X7_front_58 : decode (yB m_X7_front) 58 = .ok (.istore 4, 2) := by decide +kernel
theorem d_X7_front_60 : decode (yB m_X7_front) 60 = .ok (.iload 4, 2) := by decide +kernel
theorem d_X7_front_62 : decode (yB m_X7_front) 62 = .ok (.iconst (-1), 1) := by decide +kernel
theorem d_X7_front_63 : decode (yB m_X7_front) 63 = .ok (.if_icmp .ne 5, 3) := by decide +kernel
theorem d_X7_front_66 : decode (yB m_X7_front) 66 = .ok (.iconst 0, 1) := by decide +kernel
theorem d_X7_front_67 : decode (yB m_X7_front) 67 = .ok (.ireturn, 1) := by decide +kernel
theorem d_X7_front_68 : decode (yB m_X7_front) 68 = .ok (.aload_n 0, 1) := by decide +kernel
theorem d_X7_front_69 : decode (yB m_X7_front) 69 = .ok (.getfield 26, 3) := by decide +kernel
theorem d_X7_front_72 : decode (yB m_X7_front) 72 = .ok (.iconst 1, 1) := by decide +kernel
theorem d_X7_front_73 : decode (yB m_X7_front) 73 = .ok (.aload_n 0, 1) := by decide +kernel
theorem d_X7_front_74 : decode (yB m_X7_front) 74 = .ok (.getfield 38, 3) := by decide +kernel
theorem d_X7_front_77 : decode (yB m_X7_front) 77 = .ok (.iload_n 3, 1) := by decide +kernel
theorem d_X7_front_78 : decode (yB m_X7_front) 78 = .ok (.isub, 1) := by decide +kernel
theorem d_X7_front_79 : decode (yB m_X7_front) 79 = .ok (.invokevirtual 119, 3) := by decide +kernel
theorem d_X7_front_82 : decode (yB m_X7_front) 82 = .ok (.istore 5, 2) := by decide +kernel
theorem d_X7_front_84 : decode (yB m_X7_front) 84 = .ok (.iload 5, 2) := by decide +kernel
theorem d_X7_front_86 : decode (yB m_X7_front) 86 = .ok (.iconst (-1), 1) := by decide +kernel
theorem d_X7_front_87 : decode (yB m_X7_front) 87 = .ok (.if_icmp .ne 5, 3) := by decide +kernel
theorem d_X7_front_90 : decode (yB m_X7_front) 90 = .ok (.iconst 0, 1) := by decide +kernel
theorem d_X7_front_91 : decode (yB m_X7_front) 91 = .ok (.ireturn, 1) := by decide +kernel
theorem d_X7_front_92 : decode (yB m_X7_front) 92 = .ok (.aload_n 1, 1) := by decide +kernel
theorem d_X7_front_93 : decode (yB m_X7_front) 93 = .ok (.aload_n 0, 1) := by decide +kernel
theorem d_X7_front_94 : decode (yB m_X7_front) 94 = .ok (.iload_n 2, 1) := by decide +kernel
theorem d_X7_front_95 : decode (yB m_X7_front) 95 = .ok (.iload_n 3, 1) := by decide +kernel
theorem d_X7_front_96 : decode (yB m_X7_front) 96 = .ok (.iload 4, 2) := by decide +kernel
theorem d_X7_front_98 : decode (yB m_X7_front) 98 = .ok (.iload 5, 2) := by decide +kernel
theorem d_X7_front_100 : decode (yB m_X7_front) 100 = .ok (.invokevirtual 123, 3) := by decide +kernel
theorem d_X7_front_103 : decode (yB m_X7_front) 103 = .ok (.invokevirtual 127, 3) := by decide +kernel
theorem d_X7_front_106 : decode (yB m_X7_front) 106 = .ok (.iconst 1, 1) := by decide +kernel
theorem d_X7_front_107 : decode (yB m_X7_front) 107 = .ok (.ireturn, 1) := by decide +kernel
def fn_X7_front (a1 : Nat) (D : zD) : Option (Int32 × zD) := (fn_X8_number (0 : Int32) ((gI D 22 4) - (1 : Int32)) D).bind fun q1 => (if q1.1 = (-1 : Int32) then ((some ((0 : Int32), q1.2))) else ((fn_X8_number (0 : Int32) ((gI q1.2 22 5) - (1 : Int32)) q1.2).bind fun q3 => (if q3.1 = (-1 : Int32) then ((some ((0 : Int32), q3.2))) else ((fn_X8_number (1 : Int32) ((gI q3.2 22 4) - q1.1) q3.2).bind fun q5 => (if q5.1 = (-1 : Int32) then ((some ((0 : Int32), q5.2))) else ((fn_X8_number (1 : Int32) ((gI q5.2 22 5) - q3.1) q5.2).bind fun q7 => (if q7.1 = (-1 : Int32) then ((some ((0 : Int32), q7.2))) else ((fn_X7_block q1.1 q3.1 q5.1 q7.1 q7.2).bind fun x9 => (fn_X3_beOne a1 x9 q7.2).bind fun D10 => (some ((1 : Int32), D10))))))))))
theorem s_X7_front {X : zX} {Sh : zSh} {d : Nat} (hst : (zl X).stackTraces = false) (h0 : zSh0 Sh) (hd : 3 ≤ d) {a1 : Nat} (h_a1 : a1 ∈ zI_3) {D : zD} : Sd X m_X7_front d [.ref 22, .ref a1] (Sh, D) ((oI Sh) (fn_X7_front a1 D)) := by
  obtain ⟨d, rfl⟩ : ∃ e, d = e + 1 := ⟨d - 1, by omega⟩
  replace hd : 2 ≤ d := by omega
  refine z_body ck_X7_front rfl (Nat.le_of_ble_eq_true rfl) rfl hst ?_
  rw [fn_X7_front]
  show Rn X m_X7_front (d + 1) 0 [(0, .ref 22), (1, .ref a1)] [] (Sh, D) _
  refine r_aload_n (pc := 0) 0 d_X7_front_0 rfl rfl ?_
  refine r_getR (pc := 1) g_X7_26 (K_22 h0) rfl (R_22_0 h0) d_X7_front_1 ?_
  refine r_iconst (pc := 4) (0 : Int32) d_X7_front_4 rfl ?_
  refine r_aload_n (pc := 5) 0 d_X7_front_5 rfl rfl ?_
  refine q_gI (pc := 6) g_X7_34 (K_22 h0) rfl d_X7_front_6 ?_
  refine r_iconst (pc := 9) (1 : Int32) d_X7_front_9 rfl ?_
  refine r_isub (pc := 10) d_X7_front_10 ?_
  refine q_cI (f := (oI Sh)) (av := [.ref 2, .int (0 : Int32), .int ((gI D 22 4) - (1 : Int32))]) (st := []) (z_runV ck_X8_number rfl ml_X7_119 ci_X8_number cv_X8_number (K_2 h0) (ci := 8) rfl rfl (Nat.le_of_ble_eq_true rfl) d_X7_front_11) (s_X8_number hst h0 (by omega)) kp_I (fun q1 _ => ?_)
  refine r_istore_n (pc := 14) (ls' := [(2, .int q1.1), (0, .ref 22), (1, .ref a1)]) d_X7_front_14 rfl (Nat.le_of_ble_eq_true rfl) rfl ?_
  refine r_iload_n (pc := 15) 0 d_X7_front_15 rfl rfl ?_
  refine r_iconst (pc := 16) (-1 : Int32) d_X7_front_16 rfl ?_
  refine r_icmp_ne (f := (oI Sh)) (pc := 17) 22 d_X7_front_17 (by decide) (fun c2 => ?_) (fun c2 => ?_)
  · refine r_aload_n (pc := 22) 1 d_X7_front_22 rfl rfl ?_
    refine r_getR (pc := 23) g_X7_26 (K_22 h0) rfl (R_22_0 h0) d_X7_front_23 ?_
    refine r_iconst (pc := 26) (0 : Int32) d_X7_front_26 rfl ?_
    refine r_aload_n (pc := 27) 1 d_X7_front_27 rfl rfl ?_
    refine q_gI (pc := 28) g_X7_38 (K_22 h0) rfl d_X7_front_28 ?_
    refine r_iconst (pc := 31) (1 : Int32) d_X7_front_31 rfl ?_
    refine r_isub (pc := 32) d_X7_front_32 ?_
    refine q_cI (f := (oI Sh)) (av := [.ref 2, .int (0 : Int32), .int ((gI q1.2 22 5) - (1 : Int32))]) (st := []) (z_runV ck_X8_number rfl ml_X7_119 ci_X8_number cv_X8_number (K_2 h0) (ci := 8) rfl rfl (Nat.le_of_ble_eq_true rfl) d_X7_front_33) (s_X8_number hst h0 (by omega)) kp_I (fun q3 _ => ?_)
    refine r_istore_n (pc := 36) (ls' := [(3, .int q3.1), (2, .int q1.1), (0, .ref 22), (1, .ref a1)]) d_X7_front_36 rfl (Nat.le_of_ble_eq_true rfl) rfl ?_
    refine r_iload_n (pc := 37) 0 d_X7_front_37 rfl rfl ?_
    refine r_iconst (pc := 38) (-1 : Int32) d_X7_front_38 rfl ?_
    refine r_icmp_ne (f := (oI Sh)) (pc := 39) 44 d_X7_front_39 (by decide) (fun c4 => ?_) (fun c4 => ?_)
    · refine r_aload_n (pc := 44) 2 d_X7_front_44 rfl rfl ?_
      refine r_getR (pc := 45) g_X7_26 (K_22 h0) rfl (R_22_0 h0) d_X7_front_45 ?_
      refine r_iconst (pc := 48) (1 : Int32) d_X7_front_48 rfl ?_
      refine r_aload_n (pc := 49) 2 d_X7_front_49 rfl rfl ?_
      refine q_gI (pc := 50) g_X7_34 (K_22 h0) rfl d_X7_front_50 ?_
      refine r_iload_n (pc := 53) 1 d_X7_front_53 rfl rfl ?_
      refine r_isub (pc := 54) d_X7_front_54 ?_
      refine q_cI (f := (oI Sh)) (av := [.ref 2, .int (1 : Int32), .int ((gI q3.2 22 4) - q1.1)]) (st := []) (z_runV ck_X8_number rfl ml_X7_119 ci_X8_number cv_X8_number (K_2 h0) (ci := 8) rfl rfl (Nat.le_of_ble_eq_true rfl) d_X7_front_55) (s_X8_number hst h0 (by omega)) kp_I (fun q5 _ => ?_)
      refine r_istore (pc := 58) (ls' := [(4, .int q5.1), (3, .int q3.1), (2, .int q1.1), (0, .ref 22), (1, .ref a1)]) d_X7_front_58 (Nat.le_of_ble_eq_true rfl) rfl ?_
      refine r_iload (pc := 60) 0 d_X7_front_60 rfl ?_
      refine r_iconst (pc := 62) (-1 : Int32) d_X7_front_62 rfl ?_
      refine r_icmp_ne (f := (oI Sh)) (pc := 63) 68 d_X7_front_63 (by decide) (fun c6 => ?_) (fun c6 => ?_)
      · refine r_aload_n (pc := 68) 3 d_X7_front_68 rfl rfl ?_
        refine r_getR (pc := 69) g_X7_26 (K_22 h0) rfl (R_22_0 h0) d_X7_front_69 ?_
        refine r_iconst (pc := 72) (1 : Int32) d_X7_front_72 rfl ?_
        refine r_aload_n (pc := 73) 3 d_X7_front_73 rfl rfl ?_
        refine q_gI (pc := 74) g_X7_38 (K_22 h0) rfl d_X7_front_74 ?_
        refine r_iload_n (pc := 77) 1 d_X7_front_77 rfl rfl ?_
        refine r_isub (pc := 78) d_X7_front_78 ?_
        refine q_cI (f := (oI Sh)) (av := [.ref 2, .int (1 : Int32), .int ((gI q5.2 22 5) - q3.1)]) (st := []) (z_runV ck_X8_number rfl ml_X7_119 ci_X8_number cv_X8_number (K_2 h0) (ci := 8) rfl rfl (Nat.le_of_ble_eq_true rfl) d_X7_front_79) (s_X8_number hst h0 (by omega)) kp_I (fun q7 _ => ?_)
        refine r_istore (pc := 82) (ls' := [(5, .int q7.1), (4, .int q5.1), (3, .int q3.1), (2, .int q1.1), (0, .ref 22), (1, .ref a1)]) d_X7_front_82 (Nat.le_of_ble_eq_true rfl) rfl ?_
        refine r_iload (pc := 84) 0 d_X7_front_84 rfl ?_
        refine r_iconst (pc := 86) (-1 : Int32) d_X7_front_86 rfl ?_
        refine r_icmp_ne (f := (oI Sh)) (pc := 87) 92 d_X7_front_87 (by decide) (fun c8 => ?_) (fun c8 => ?_)
        · refine r_aload_n (pc := 92) 5 d_X7_front_92 rfl rfl ?_
          refine r_aload_n (pc := 93) 4 d_X7_front_93 rfl rfl ?_
          refine r_iload_n (pc := 94) 3 d_X7_front_94 rfl rfl ?_
          refine r_iload_n (pc := 95) 2 d_X7_front_95 rfl rfl ?_
          refine r_iload (pc := 96) 1 d_X7_front_96 rfl ?_
          refine r_iload (pc := 98) 0 d_X7_front_98 rfl ?_
          refine q_cP (f := (oI Sh)) (av := [.ref 22, .int q1.1, .int q3.1, .int q5.1, .int q7.1]) (st := [.ref a1]) (z_runV ck_X7_block rfl ml_X7_123 ci_X7_block cv_X7_block (K_22 h0) (ci := 7) rfl rfl (Nat.le_of_ble_eq_true rfl) d_X7_front_100) (s_X7_block hst h0 (by omega)) kp_I (fun x9 _ => ?_)
          refine q_cV (f := (oI Sh)) (av := [.ref a1, .int x9]) (st := []) (z_runV ck_X3_beOne rfl ml_X7_127 ci_X3_beOne cv_X3_beOne (LK_3 h0 h_a1) (ci := 3) rfl rfl (Nat.le_of_ble_eq_true rfl) d_X7_front_103) (s_X3_beOne hst h0 (by omega) h_a1) kp_I (fun D10 _ => ?_)
          refine r_iconst (pc := 106) (1 : Int32) d_X7_front_106 rfl ?_
          exact r_zret (pc := 107) rfl (by decide) d_X7_front_107
        · refine r_iconst (pc := 90) (0 : Int32) d_X7_front_90 rfl ?_
          exact r_zret (pc := 91) rfl (by decide) d_X7_front_91
      · refine r_iconst (pc := 66) (0 : Int32) d_X7_front_66 rfl ?_
        exact r_zret (pc := 67) rfl (by decide) d_X7_front_67
    · refine r_iconst (pc := 42) (0 : Int32) d_X7_front_42 rfl ?_
      exact r_zret (pc := 43) rfl (by decide) d_X7_front_43
  · refine r_iconst (pc := 20) (0 : Int32) d_X7_front_20 rfl ?_
    exact r_zret (pc := 21) rfl (by decide) d_X7_front_21
/-! CoveredSigns$RuleText.side -/
theorem d_X7_side_0 : decode (yB m_X7_side) 0 = .ok (.aload_n 0, 1) := by decide +kernel
theorem d_X7_side_1 : decode (yB m_X7_side) 1 = .ok (.getfield 26, 3) := by decide +kernel
theorem d_X7_side_4 : decode (yB m_X7_side) 4 = .ok (.iconst 0, 1) := by decide +kernel
theorem d_X7_side_5 : decode (yB m_X7_side) 5 = .ok (.iconst 3, 1) := by decide +kernel
theorem d_X7_side_6 : decode (yB m_X7_side) 6 = .ok (.invokevirtual 119, 3) := by decide +kernel
theorem d_X7_side_9 : decode (yB m_X7_side) 9 = .ok (.istore_n 2, 1) := by decide +kernel
theorem d_X7_side_10 : decode (yB m_X7_side) 10 = .ok (.iload_n 2, 1) := by decide +kernel
theorem d_X7_side_11 : decode (yB m_X7_side) 11 = .ok (.iconst (-1), 1) := by decide +kernel
theorem d_X7_side_12 : decode (yB m_X7_side) 12 = .ok (.if_icmp .ne 5, 3) := by decide +kernel
theorem d_X7_side_15 : decode (yB m_X7_side) 15 = .ok (.iconst 0, 1) := by decide +kernel
theorem d_X7_side_16 : decode (yB m_X7_side) 16 = .ok (.ireturn, 1) := by decide +kernel
theorem d_X7_side_17 : decode (yB m_X7_side) 17 = .ok (.aload_n 0, 1) := by decide +kernel
theorem d_X7_side_18 : decode (yB m_X7_side) 18 = .ok (.getfield 26, 3) := by decide +kernel
theorem d_X7_side_21 : decode (yB m_X7_side) 21 = .ok (.iconst 1, 1) := by decide +kernel
theorem d_X7_side_22 : decode (yB m_X7_side) 22 = .ok (.iload_n 2, 1) := by decide +kernel
theorem d_X7_side_23 : decode (yB m_X7_side) 23 = .ok (.iconst 2, 1) := by decide +kernel
theorem d_X7_side_24 : decode (yB m_X7_side) 24 = .ok (.if_icmp .ge 10, 3) := by decide +kernel
theorem d_X7_side_27 : decode (yB m_X7_side) 27 = .ok (.aload_n 0, 1) := by decide +kernel
theorem d_X7_side_28 : decode (yB m_X7_side) 28 = .ok (.getfield 34, 3) := by decide +kernel
theorem d_X7_side_31 : decode (yB m_X7_side) 31 = .ok (.goto 7, 3) := by decide +kernel
theorem d_X7_side_34 : decode (yB m_X7_side) 34 = .ok (.aload_n 0, 1) := by decide +kernel
theorem d_X7_side_35 : decode (yB m_X7_side) 35 = .ok (.getfield 38, 3) := by decide +kernel
theorem d_X7_side_38 : decode (yB m_X7_side) 38 = .ok (.invokevirtual 119, 3) := by decide +kernel
theorem d_X7_side_41 : decode (yB m_X7_side) 41 = .ok (.istore_n 3, 1) := by decide +kernel
theorem d_X7_side_42 : decode (yB m_X7_side) 42 = .ok (.iload_n 3, 1) := by decide +kernel
theorem d_X7_side_43 : decode (yB m_X7_side) 43 = .ok (.iconst (-1), 1) := by decide +kernel
theorem d_X7_side_44 : decode (yB m_X7_side) 44 = .ok (.if_icmp .ne 5, 3) := by decide +kernel
theorem d_X7_side_47 : decode (yB m_X7_side) 47 = .ok (.iconst 0, 1) := by decide +kernel
theorem d_X7_side_48 : decode (yB m_X7_side) 48 = .ok (.ireturn, 1) := by decide +kernel
theorem d_X7_side_49 : decode (yB m_X7_side) 49 = .ok (.iload_n 2, 1) := by decide +kernel
theorem d_X7_side_50 : decode (yB m_X7_side) 50 = .ok (.iconst 2, 1) := by decide +kernel
theorem d_X7_side_51 : decode (yB m_X7_side) 51 = .ok (.if_icmp .ge 34, 3) := by decide +kernel
theorem d_X7_side_54 : decode (yB m_X7_side) 54 = .ok (.aload_n 1, 1) := by decide +kernel
theorem d_X7_side_55 : decode (yB m_X7_side) 55 = .ok (.aload_n 0, 1) := by decide +kernel
theorem d_X7_side_56 : decode (yB m_X7_side) 56 = .ok (.iload_n 2, 1) := by decide +kernel
theorem d_X7_side_57 : decode (yB m_X7_side) 57 = .ok (.ifCond .ne 7, 3) := by decide +kernel
theorem d_X7_side_60 : decode (yB m_X7_side) 60 = .ok (.iconst 0, 1) := by decide +kernel
theorem d_X7_side_61 : decode (yB m_X7_side) 61 = .ok (.goto 9, 3) := by decide +kernel
theorem d_X7_side_64 : decode (yB m_X7_side) 64 = .ok (.aload_n 0, 1) := by decide +kernel
theorem d_X7_side_65 : decode (yB m_X7_side) 65 = .ok (.getfield 34, 3) := by decide +kernel
theorem d_X7_side_68 : decode (yB m_X7_side) 68 = .ok (.iload_n 3, 1) := by decide +kernel
theorem d_X7_side_69 : decode (yB m_X7_side) 69 = .ok (.isub, 1) := by decide +kernel
theorem d_X7_side_70 : decode (yB m_X7_side) 70 = .ok (.iconst 0, 1) := by decide +kernel
theorem d_X7_side_71 : decode (yB m_X7_side) 71 = .ok (.iload_n 3, 1) := by decide +kernel
theorem d_X7_side_72 : decode (yB m_X7_side) 72 = .ok (.aload_n 0, 1) := by decide +kernel
theorem d_X7_side_73 : decode (yB m_X7_side) 73 = .ok (.getfield 38, 3) := by decide +kernel
theorem d_X7_side_76 : decode (yB m_X7_side) 76 = .ok (.invokevirtual 123, 3) := by decide +kernel
theorem d_X7_side_79 : decode (yB m_X7_side) 79 = .ok (.invokevirtual 127, 3) := by decide +kernel
theorem d_X7_side_82 : decode (yB m_X7_side) 82 = .ok (.goto 32, 3) := by decide +kernel
theorem d_X7_side_85 : decode (yB m_X7_side) 85 = .ok (.aload_n 1, 1) := by decide +kernel
theorem d_X7_side_86 : decode (yB m_X7_side) 86 = .ok (.aload_n 0, 1) := by decide +kernel
theorem d_X7_side_87 : decode (yB m_X7_side) 87 = .ok (.iconst 0, 1) := by decide +kernel
theorem d_X7_side_88 : decode (yB m_X7_side) 88 = .ok (.iload_n 2, 1) := by decide +kernel
theorem d_X7_side_89 : decode (yB m_X7_side) 89 = .ok (.iconst 2, 1) := by decide +kernel
theorem d_X7_side_90 : decode (yB m_X7_side) 90 = .ok (.if_icmp .ne 7, 3) := by decide +kernel
theorem d_X7_side_93 : decode (yB m_X7_side) 93 = .ok (.iconst 0, 1) := by decide +kernel
theorem d_X7_side_94 : decode (yB m_X7_side) 94 = .ok (.goto 9, 3) := by decide +kernel
theorem d_X7_side_97 : decode (yB m_X7_side) 97 = .ok (.aload_n 0, 1) := by decide +kernel
theorem d_X7_side_98 : decode (yB m_X7_side) 98 = .ok (.getfield 38, 3) := by decide +kernel
theorem d_X7_side_101 : decode (yB m_X7_side) 101 = .ok (.iload_n 3, 1) := by decide +kernel
theorem d_X7_side_102 : decode (yB m_X7_side) 102 = .ok (.isub, 1) := by decide +kernel
theorem d_X7_side_103 : decode (yB m_X7_side) 103 = .ok (.aload_n 0, 1) := by decide +kernel
theorem d_X7_side_104 : decode (yB m_X7_side) 104 = .ok (.getfield 34, 3) := by decide +kernel
theorem d_X7_side_107 : decode (yB m_X7_side) 107 = .ok (.iload_n 3, 1) := by decide +kernel
theorem d_X7_side_108 : decode (yB m_X7_side) 108 = .ok (.invokevirtual 123, 3) := by decide +kernel
theorem d_X7_side_111 : decode (yB m_X7_side) 111 = .ok (.invokevirtual 127, 3) := by decide +kernel
theorem d_X7_side_114 : decode (yB m_X7_side) 114 = .ok (.iconst 1, 1) := by decide +kernel
theorem d_X7_side_115 : decode (yB m_X7_side) 115 = .ok (.ireturn, 1) := by decide +kernel
def fn_X7_side_103 (a1 : Nat) (v3 : Int32) (w2 : Int32) (w3 : Int32) (D : zD) : Option (Int32 × zD) := (fn_X7_block w2 w3 (gI D 22 4) v3 D).bind fun x8 => (fn_X3_beOne a1 x8 D).bind fun D9 => (some ((1 : Int32), D9))
def fn_X7_side_70 (a1 : Nat) (v3 : Int32) (w2 : Int32) (D : zD) : Option (Int32 × zD) := (fn_X7_block w2 (0 : Int32) v3 (gI D 22 5) D).bind fun x11 => (fn_X3_beOne a1 x11 D).bind fun D12 => (some ((1 : Int32), D12))
def fn_X7_side_38 (a1 : Nat) (v2 : Int32) (w1 : Int32) (w2 : Int32) (D : zD) : Option (Int32 × zD) := (fn_X8_number w1 w2 D).bind fun q4 => (if q4.1 = (-1 : Int32) then ((some ((0 : Int32), q4.2))) else ((if (2 : Int32) ≤ v2 then ((if v2 = (2 : Int32) then ((fn_X7_side_103 a1 q4.1 (0 : Int32) (0 : Int32) q4.2)) else ((fn_X7_side_103 a1 q4.1 (0 : Int32) ((gI q4.2 22 5) - q4.1) q4.2)))) else ((if v2 = 0 then ((fn_X7_side_70 a1 q4.1 (0 : Int32) q4.2)) else ((fn_X7_side_70 a1 q4.1 ((gI q4.2 22 4) - q4.1) q4.2)))))))
def fn_X7_side (a1 : Nat) (D : zD) : Option (Int32 × zD) := (fn_X8_number (0 : Int32) (3 : Int32) D).bind fun q1 => (if q1.1 = (-1 : Int32) then ((some ((0 : Int32), q1.2))) else ((if (2 : Int32) ≤ q1.1 then ((fn_X7_side_38 a1 q1.1 (1 : Int32) (gI q1.2 22 5) q1.2)) else ((fn_X7_side_38 a1 q1.1 (1 : Int32) (gI q1.2 22 4) q1.2)))))
theorem s_X7_side_103 {X : zX} {Sh : zSh} {d : Nat} (hst : (zl X).stackTraces = false) (h0 : zSh0 Sh) (hd : 2 ≤ d) {a1 : Nat} (h_a1 : a1 ∈ zI_3) (v3 : Int32) (w2 : Int32) (w3 : Int32) (D : zD)  : Rn X m_X7_side (d + 1) 103 [(0, .ref 22), (3, .int v3)] [.int w3, .int w2, .ref 22, .ref a1] (Sh, D) ((oI Sh) (fn_X7_side_103 a1 v3 w2 w3 D)) := by
  rw [fn_X7_side_103]
  refine r_aload_n (pc := 103) 0 d_X7_side_103 rfl rfl ?_
  refine q_gI (pc := 104) g_X7_34 (K_22 h0) rfl d_X7_side_104 ?_
  refine r_iload_n (pc := 107) 1 d_X7_side_107 rfl rfl ?_
  refine q_cP (f := (oI Sh)) (av := [.ref 22, .int w2, .int w3, .int (gI D 22 4), .int v3]) (st := [.ref a1]) (z_runV ck_X7_block rfl ml_X7_123 ci_X7_block cv_X7_block (K_22 h0) (ci := 7) rfl rfl (Nat.le_of_ble_eq_true rfl) d_X7_side_108) (s_X7_block hst h0 (by omega)) kp_I (fun x8 _ => ?_)
  refine q_cV (f := (oI Sh)) (av := [.ref a1, .int x8]) (st := []) (z_runV ck_X3_beOne rfl ml_X7_127 ci_X3_beOne cv_X3_beOne (LK_3 h0 h_a1) (ci := 3) rfl rfl (Nat.le_of_ble_eq_true rfl) d_X7_side_111) (s_X3_beOne hst h0 (by omega) h_a1) kp_I (fun D9 _ => ?_)
  refine r_iconst (pc := 114) (1 : Int32) d_X7_side_114 rfl ?_
  exact r_zret (pc := 115) rfl (by decide) d_X7_side_115
theorem s_X7_side_70 {X : zX} {Sh : zSh} {d : Nat} (hst : (zl X).stackTraces = false) (h0 : zSh0 Sh) (hd : 2 ≤ d) {a1 : Nat} (h_a1 : a1 ∈ zI_3) (v3 : Int32) (w2 : Int32) (D : zD)  : Rn X m_X7_side (d + 1) 70 [(0, .ref 22), (3, .int v3)] [.int w2, .ref 22, .ref a1] (Sh, D) ((oI Sh) (fn_X7_side_70 a1 v3 w2 D)) := by
  rw [fn_X7_side_70]
  refine r_iconst (pc := 70) (0 : Int32) d_X7_side_70 rfl ?_
  refine r_iload_n (pc := 71) 1 d_X7_side_71 rfl rfl ?_
  refine r_aload_n (pc := 72) 0 d_X7_side_72 rfl rfl ?_
  refine q_gI (pc := 73) g_X7_38 (K_22 h0) rfl d_X7_side_73 ?_
  refine q_cP (f := (oI Sh)) (av := [.ref 22, .int w2, .int (0 : Int32), .int v3, .int (gI D 22 5)]) (st := [.ref a1]) (z_runV ck_X7_block rfl ml_X7_123 ci_X7_block cv_X7_block (K_22 h0) (ci := 7) rfl rfl (Nat.le_of_ble_eq_true rfl) d_X7_side_76) (s_X7_block hst h0 (by omega)) kp_I (fun x11 _ => ?_)
  refine q_cV (f := (oI Sh)) (av := [.ref a1, .int x11]) (st := []) (z_runV ck_X3_beOne rfl ml_X7_127 ci_X3_beOne cv_X3_beOne (LK_3 h0 h_a1) (ci := 3) rfl rfl (Nat.le_of_ble_eq_true rfl) d_X7_side_79) (s_X3_beOne hst h0 (by omega) h_a1) kp_I (fun D12 _ => ?_)
  refine r_goto (pc := 82) 114 d_X7_side_82 (by decide) ?_
  refine r_iconst (pc := 114) (1 : Int32) d_X7_side_114 rfl ?_
  exact r_zret (pc := 115) rfl (by decide) d_X7_side_115
theorem s_X7_side_38 {X : zX} {Sh : zSh} {d : Nat} (hst : (zl X).stackTraces = false) (h0 : zSh0 Sh) (hd : 2 ≤ d) {a1 : Nat} (h_a1 : a1 ∈ zI_3) (v2 : Int32) (w1 : Int32) (w2 : Int32) (D : zD)  : Rn X m_X7_side (d + 1) 38 [(0, .ref 22), (1, .ref a1), (2, .int v2)] [.int w2, .int w1, .ref 2] (Sh, D) ((oI Sh) (fn_X7_side_38 a1 v2 w1 w2 D)) := by
  rw [fn_X7_side_38]
  refine q_cI (f := (oI Sh)) (av := [.ref 2, .int w1, .int w2]) (st := []) (z_runV ck_X8_number rfl ml_X7_119 ci_X8_number cv_X8_number (K_2 h0) (ci := 8) rfl rfl (Nat.le_of_ble_eq_true rfl) d_X7_side_38) (s_X8_number hst h0 (by omega)) kp_I (fun q4 _ => ?_)
  refine r_istore_n (pc := 41) (ls' := [(3, .int q4.1), (0, .ref 22), (1, .ref a1), (2, .int v2)]) d_X7_side_41 rfl (Nat.le_of_ble_eq_true rfl) rfl ?_
  refine r_iload_n (pc := 42) 0 d_X7_side_42 rfl rfl ?_
  refine r_iconst (pc := 43) (-1 : Int32) d_X7_side_43 rfl ?_
  refine r_icmp_ne (f := (oI Sh)) (pc := 44) 49 d_X7_side_44 (by decide) (fun c5 => ?_) (fun c5 => ?_)
  · refine r_iload_n (pc := 49) 3 d_X7_side_49 rfl rfl ?_
    refine r_iconst (pc := 50) (2 : Int32) d_X7_side_50 rfl ?_
    refine r_icmp_ge (f := (oI Sh)) (pc := 51) 85 d_X7_side_51 (by decide) (fun c6 => ?_) (fun c6 => ?_)
    · refine r_aload_n (pc := 85) 2 d_X7_side_85 rfl rfl ?_
      refine r_aload_n (pc := 86) 1 d_X7_side_86 rfl rfl ?_
      refine r_iconst (pc := 87) (0 : Int32) d_X7_side_87 rfl ?_
      refine r_iload_n (pc := 88) 3 d_X7_side_88 rfl rfl ?_
      refine r_iconst (pc := 89) (2 : Int32) d_X7_side_89 rfl ?_
      refine r_icmp_ne (f := (oI Sh)) (pc := 90) 97 d_X7_side_90 (by decide) (fun c7 => ?_) (fun c7 => ?_)
      · refine r_aload_n (pc := 97) 1 d_X7_side_97 rfl rfl ?_
        refine q_gI (pc := 98) g_X7_38 (K_22 h0) rfl d_X7_side_98 ?_
        refine r_iload_n (pc := 101) 0 d_X7_side_101 rfl rfl ?_
        refine r_isub (pc := 102) d_X7_side_102 ?_
        refine r_pick [1, 0] (ls' := [(0, .ref 22), (3, .int q4.1)]) rfl ?_
        exact s_X7_side_103 hst h0 hd h_a1 q4.1 (0 : Int32) ((gI q4.2 22 5) - q4.1) q4.2
      · refine r_iconst (pc := 93) (0 : Int32) d_X7_side_93 rfl ?_
        refine r_goto (pc := 94) 103 d_X7_side_94 (by decide) ?_
        refine r_pick [1, 0] (ls' := [(0, .ref 22), (3, .int q4.1)]) rfl ?_
        exact s_X7_side_103 hst h0 hd h_a1 q4.1 (0 : Int32) (0 : Int32) q4.2
    · refine r_aload_n (pc := 54) 2 d_X7_side_54 rfl rfl ?_
      refine r_aload_n (pc := 55) 1 d_X7_side_55 rfl rfl ?_
      refine r_iload_n (pc := 56) 3 d_X7_side_56 rfl rfl ?_
      refine r_if_ne (f := (oI Sh)) (pc := 57) 64 d_X7_side_57 (by decide) (fun c10 => ?_) (fun c10 => ?_)
      · refine r_aload_n (pc := 64) 1 d_X7_side_64 rfl rfl ?_
        refine q_gI (pc := 65) g_X7_34 (K_22 h0) rfl d_X7_side_65 ?_
        refine r_iload_n (pc := 68) 0 d_X7_side_68 rfl rfl ?_
        refine r_isub (pc := 69) d_X7_side_69 ?_
        refine r_pick [1, 0] (ls' := [(0, .ref 22), (3, .int q4.1)]) rfl ?_
        exact s_X7_side_70 hst h0 hd h_a1 q4.1 ((gI q4.2 22 4) - q4.1) q4.2
      · refine r_iconst (pc := 60) (0 : Int32) d_X7_side_60 rfl ?_
        refine r_goto (pc := 61) 70 d_X7_side_61 (by decide) ?_
        refine r_pick [1, 0] (ls' := [(0, .ref 22), (3, .int q4.1)]) rfl ?_
        exact s_X7_side_70 hst h0 hd h_a1 q4.1 (0 : Int32) q4.2
  · refine r_iconst (pc := 47) (0 : Int32) d_X7_side_47 rfl ?_
    exact r_zret (pc := 48) rfl (by decide) d_X7_side_48
theorem s_X7_side {X : zX} {Sh : zSh} {d : Nat} (hst : (zl X).stackTraces = false) (h0 : zSh0 Sh) (hd : 3 ≤ d) {a1 : Nat} (h_a1 : a1 ∈ zI_3) {D : zD} : Sd X m_X7_side d [.ref 22, .ref a1] (Sh, D) ((oI Sh) (fn_X7_side a1 D)) := by
  obtain ⟨d, rfl⟩ : ∃ e, d = e + 1 := ⟨d - 1, by omega⟩
  replace hd : 2 ≤ d := by omega
  refine z_body ck_X7_side rfl (Nat.le_of_ble_eq_true rfl) rfl hst ?_
  rw [fn_X7_side]
  show Rn X m_X7_side (d + 1) 0 [(0, .ref 22), (1, .ref a1)] [] (Sh, D) _
  refine r_aload_n (pc := 0) 0 d_X7_side_0 rfl rfl ?_
  refine r_getR (pc := 1) g_X7_26 (K_22 h0) rfl (R_22_0 h0) d_X7_side_1 ?_
  refine r_iconst (pc := 4) (0 : Int32) d_X7_side_4 rfl ?_
  refine r_iconst (pc := 5) (3 : Int32) d_X7_side_5 rfl ?_
  refine q_cI (f := (oI Sh)) (av := [.ref 2, .int (0 : Int32), .int (3 : Int32)]) (st := []) (z_runV ck_X8_number rfl ml_X7_119 ci_X8_number cv_X8_number (K_2 h0) (ci := 8) rfl rfl (Nat.le_of_ble_eq_true rfl) d_X7_side_6) (s_X8_number hst h0 (by omega)) kp_I (fun q1 _ => ?_)
  refine r_istore_n (pc := 9) (ls' := [(2, .int q1.1), (0, .ref 22), (1, .ref a1)]) d_X7_side_9 rfl (Nat.le_of_ble_eq_true rfl) rfl ?_
  refine r_iload_n (pc := 10) 0 d_X7_side_10 rfl rfl ?_
  refine r_iconst (pc := 11) (-1 : Int32) d_X7_side_11 rfl ?_
  refine r_icmp_ne (f := (oI Sh)) (pc := 12) 17 d_X7_side_12 (by decide) (fun c2 => ?_) (fun c2 => ?_)
  · refine r_aload_n (pc := 17) 1 d_X7_side_17 rfl rfl ?_
    refine r_getR (pc := 18) g_X7_26 (K_22 h0) rfl (R_22_0 h0) d_X7_side_18 ?_
    refine r_iconst (pc := 21) (1 : Int32) d_X7_side_21 rfl ?_
    refine r_iload_n (pc := 22) 0 d_X7_side_22 rfl rfl ?_
    refine r_iconst (pc := 23) (2 : Int32) d_X7_side_23 rfl ?_
    refine r_icmp_ge (f := (oI Sh)) (pc := 24) 34 d_X7_side_24 (by decide) (fun c3 => ?_) (fun c3 => ?_)
    · refine r_aload_n (pc := 34) 1 d_X7_side_34 rfl rfl ?_
      refine q_gI (pc := 35) g_X7_38 (K_22 h0) rfl d_X7_side_35 ?_
      refine r_pick [1, 2, 0] (ls' := [(0, .ref 22), (1, .ref a1), (2, .int q1.1)]) rfl ?_
      exact s_X7_side_38 hst h0 hd h_a1 q1.1 (1 : Int32) (gI q1.2 22 5) q1.2
    · refine r_aload_n (pc := 27) 1 d_X7_side_27 rfl rfl ?_
      refine q_gI (pc := 28) g_X7_34 (K_22 h0) rfl d_X7_side_28 ?_
      refine r_goto (pc := 31) 38 d_X7_side_31 (by decide) ?_
      refine r_pick [1, 2, 0] (ls' := [(0, .ref 22), (1, .ref a1), (2, .int q1.1)]) rfl ?_
      exact s_X7_side_38 hst h0 hd h_a1 q1.1 (1 : Int32) (gI q1.2 22 4) q1.2
  · refine r_iconst (pc := 15) (0 : Int32) d_X7_side_15 rfl ?_
    exact r_zret (pc := 16) rfl (by decide) d_X7_side_16
/-! CoveredSigns$RuleText.addOnce -/
theorem d_X7_addOnce_0 : decode (yB m_X7_addOnce) 0 = .ok (.iload_n 1, 1) := by decide +kernel
theorem d_X7_addOnce_1 : decode (yB m_X7_addOnce) 1 = .ok (.ldc 165, 2) := by decide +kernel
theorem d_X7_addOnce_3 : decode (yB m_X7_addOnce) 3 = .ok (.imul, 1) := by decide +kernel
theorem d_X7_addOnce_4 : decode (yB m_X7_addOnce) 4 = .ok (.bipush 22, 2) := by decide +kernel
theorem d_X7_addOnce_6 : decode (yB m_X7_addOnce) 6 = .ok (.iushr, 1) := by decide +kernel
theorem d_X7_addOnce_7 : decode (yB m_X7_addOnce) 7 = .ok (.sipush 1023, 3) := by decide +kernel
theorem d_X7_addOnce_10 : decode (yB m_X7_addOnce) 10 = .ok (.iand, 1) := by decide +kernel
theorem d_X7_addOnce_11 : decode (yB m_X7_addOnce) 11 = .ok (.istore_n 2, 1) := by decide +kernel
theorem d_X7_addOnce_12 : decode (yB m_X7_addOnce) 12 = .ok (.iconst 0, 1) := by decide +kernel
theorem d_X7_addOnce_13 : decode (yB m_X7_addOnce) 13 = .ok (.istore_n 3, 1) := by decide +kernel
theorem d_X7_addOnce_14 : decode (yB m_X7_addOnce) 14 = .ok (.iload_n 3, 1) := by decide +kernel
theorem d_X7_addOnce_15 : decode (yB m_X7_addOnce) 15 = .ok (.sipush 1024, 3) := by decide +kernel
theorem d_X7_addOnce_18 : decode (yB m_X7_addOnce) 18 = .ok (.if_icmp .ge 71, 3) := by decide +kernel
theorem d_X7_addOnce_21 : decode (yB m_X7_addOnce) 21 = .ok (.aload_n 0, 1) := by decide +kernel
theorem d_X7_addOnce_22 : decode (yB m_X7_addOnce) 22 = .ok (.getfield 22, 3) := by decide +kernel
theorem d_X7_addOnce_25 : decode (yB m_X7_addOnce) 25 = .ok (.iload_n 2, 1) := by decide +kernel
theorem d_X7_addOnce_26 : decode (yB m_X7_addOnce) 26 = .ok (.iaload, 1) := by decide +kernel
theorem d_X7_addOnce_27 : decode (yB m_X7_addOnce) 27 = .ok (.iload_n 1, 1) := by decide +kernel
theorem d_X7_addOnce_28 : decode (yB m_X7_addOnce) 28 = .ok (.if_icmp .ne 4, 3) := by decide +kernel
theorem d_X7_addOnce_31 : decode (yB m_X7_addOnce) 31 = .ok (.return_, 1) := by decide +kernel
theorem d_X7_addOnce_32 : decode (yB m_X7_addOnce) 32 = .ok (.aload_n 0, 1) := by decide +kernel
theorem d_X7_addOnce_33 : decode (yB m_X7_addOnce) 33 = .ok (.getfield 22, 3) := by decide +kernel
theorem d_X7_addOnce_36 : decode (yB m_X7_addOnce) 36 = .ok (.iload_n 2, 1) := by decide +kernel
theorem d_X7_addOnce_37 : decode (yB m_X7_addOnce) 37 = .ok (.iaload, 1) := by decide +kernel
theorem d_X7_addOnce_38 : decode (yB m_X7_addOnce) 38 = .ok (.iconst (-1), 1) := by decide +kernel
theorem d_X7_addOnce_39 : decode (yB m_X7_addOnce) 39 = .ok (.if_icmp .ne 36, 3) := by decide +kernel
theorem d_X7_addOnce_42 : decode (yB m_X7_addOnce) 42 = .ok (.aload_n 0, 1) := by decide +kernel
theorem d_X7_addOnce_43 : decode (yB m_X7_addOnce) 43 = .ok (.getfield 22, 3) := by decide +kernel
theorem d_X7_addOnce_46 : decode (yB m_X7_addOnce) 46 = .ok (.iload_n 2, 1) := by decide +kernel
theorem d_X7_addOnce_47 : decode (yB m_X7_addOnce) 47 = .ok (.iload_n 1, 1) := by decide +kernel
theorem d_X7_addOnce_48 : decode (yB m_X7_addOnce) 48 = .ok (.iastore, 1) := by decide +kernel
theorem d_X7_addOnce_49 : decode (yB m_X7_addOnce) 49 = .ok (.aload_n 0, 1) := by decide +kernel
theorem d_X7_addOnce_50 : decode (yB m_X7_addOnce) 50 = .ok (.dup, 1) := by decide +kernel
theorem d_X7_addOnce_51 : decode (yB m_X7_addOnce) 51 = .ok (.getfield 41, 3) := by decide +kernel
theorem d_X7_addOnce_54 : decode (yB m_X7_addOnce) 54 = .ok (.aload_n 0, 1) := by decide +kernel
theorem d_X7_addOnce_55 : decode (yB m_X7_addOnce) 55 = .ok (.getfield 18, 3) := by decide +kernel
theorem d_X7_addOnce_58 : decode (yB m_X7_addOnce) 58 = .ok (.iload_n 1, 1) := by decide +kernel
theorem d_X7_addOnce_59 : decode (yB m_X7_addOnce) 59 = .ok (.invokevirtual 139, 3) := by decide +kernel
theorem d_X7_addOnce_62 : decode (yB m_X7_addOnce) 62 = .ok (.ifCond .ne 7, 3) := by decide +kernel
theorem d_X7_addOnce_65 : decode (yB m_X7_addOnce) 65 = .ok (.iconst 1, 1) := by decide +kernel
theorem d_X7_addOnce_66 : decode (yB m_X7_addOnce) 66 = .ok (.goto 4, 3) := by decide +kernel
theorem d_X7_addOnce_69 : decode (yB m_X7_addOnce) 69 = .ok (.iconst 0, 1) := by decide +kernel
theorem d_X7_addOnce_70 : decode (yB m_X7_addOnce) 70 = .ok (.ior, 1) := by decide +kernel
theorem d_X7_addOnce_71 : decode (yB m_X7_addOnce) 71 = .ok (.putfield 41, 3) := by decide +kernel
theorem d_X7_addOnce_74 : decode (yB m_X7_addOnce) 74 = .ok (.return_, 1) := by decide +kernel
theorem d_X7_addOnce_75 : decode (yB m_X7_addOnce) 75 = .ok (.iload_n 2, 1) := by decide +kernel
theorem d_X7_addOnce_76 : decode (yB m_X7_addOnce) 76 = .ok (.iconst 1, 1) := by decide +kernel
theorem d_X7_addOnce_77 : decode (yB m_X7_addOnce) 77 = .ok (.iadd, 1) := by decide +kernel
theorem d_X7_addOnce_78 : decode (yB m_X7_addOnce) 78 = .ok (.sipush 1023, 3) := by decide +kernel
theorem d_X7_addOnce_81 : decode (yB m_X7_addOnce) 81 = .ok (.iand, 1) := by decide +kernel
theorem d_X7_addOnce_82 : decode (yB m_X7_addOnce) 82 = .ok (.istore_n 2, 1) := by decide +kernel
theorem d_X7_addOnce_83 : decode (yB m_X7_addOnce) 83 = .ok (.iinc 3 1, 3) := by decide +kernel
theorem d_X7_addOnce_86 : decode (yB m_X7_addOnce) 86 = .ok (.goto (-72), 3) := by decide +kernel
theorem d_X7_addOnce_89 : decode (yB m_X7_addOnce) 89 = .ok (.return_, 1) := by decide +kernel
def fn_X7_addOnce_42 (v1 : Int32) (v2 : Int32) (D : zD) : Option zD := zck v2 1024 <| zlet (sI D 26 v2.toNatClampNeg v1) fun D9 => (fn_X3_add 24 v1 D9).bind fun q10 => (if q10.1 = 0 then (zcb ((gI D9 22 6) ||| (1 : Int32)) <| zlet (sI q10.2 22 6 ((gI D9 22 6) ||| (1 : Int32))) fun D15 => (some D15)) else (zcb ((gI D9 22 6) ||| (0 : Int32)) <| zlet (sI q10.2 22 6 ((gI D9 22 6) ||| (0 : Int32))) fun D13 => (some D13)))
def fn_X7_addOnce_14 (v1 : Int32) : Nat → Int32 → Int32 → zD → Option zD
  | 0, _, _, _ => none
  | n + 1, v2, v3, D => (if (1024 : Int32) ≤ v3 then ((some D)) else (zck v2 1024 <| (if (gI D 26 v2.toNatClampNeg) = v1 then ((some D)) else (zck v2 1024 <| (if (gI D 26 v2.toNatClampNeg) = (-1 : Int32) then ((fn_X7_addOnce_42 v1 v2 D)) else (zlet ((v2 + (1 : Int32)) &&& (1023 : Int32)) fun x7 => ((fn_X7_addOnce_14 v1 n) x7 (v3 + (1 : Int32)) D)))))))
def fn_X7_addOnce (v1 : Int32) (D : zD) : Option zD := zlet ((zushr (v1 * (-1640531535 : Int32)) (22 : Int32)) &&& (1023 : Int32)) fun x1 => (fn_X7_addOnce_14 v1 zFU x1 (0 : Int32) D)
theorem s_X7_addOnce_42 {X : zX} {Sh : zSh} {d : Nat} (hst : (zl X).stackTraces = false) (h0 : zSh0 Sh) (hd : 1 ≤ d) {v1 : Int32} (v2 : Int32) (D : zD)  : Rn X m_X7_addOnce (d + 1) 42 [(0, .ref 22), (1, .int v1), (2, .int v2)] [] (Sh, D) ((oV Sh) (fn_X7_addOnce_42 v1 v2 D)) := by
  rw [fn_X7_addOnce_42]
  refine r_aload_n (pc := 42) 0 d_X7_addOnce_42 rfl rfl ?_
  refine r_getR (pc := 43) g_X7_22 (K_22 h0) rfl (R_22_3 h0) d_X7_addOnce_43 ?_
  refine r_iload_n (pc := 46) 2 d_X7_addOnce_46 rfl rfl ?_
  refine r_iload_n (pc := 47) 1 d_X7_addOnce_47 rfl rfl ?_
  refine r_ck (f := (oV Sh)) rfl (fun hc8 => ?_)
  refine q_iast (pc := 48) (j := v2.toNatClampNeg) (K_26 h0) hc8 rfl  d_X7_addOnce_48 ?_
  refine r_letD (f := (oV Sh)) (fun D9 => ?_)
  refine r_aload_n (pc := 49) 0 d_X7_addOnce_49 rfl rfl ?_
  refine r_dup (pc := 50) d_X7_addOnce_50 rfl ?_
  refine q_gI (pc := 51) g_X7_41 (K_22 h0) rfl d_X7_addOnce_51 ?_
  refine r_aload_n (pc := 54) 0 d_X7_addOnce_54 rfl rfl ?_
  refine r_getR (pc := 55) g_X7_18 (K_22 h0) rfl (R_22_2 h0) d_X7_addOnce_55 ?_
  refine r_iload_n (pc := 58) 1 d_X7_addOnce_58 rfl rfl ?_
  refine q_cI (f := (oV Sh)) (av := [.ref 24, .int v1]) (st := [.int (gI D9 22 6), .ref 22]) (z_runV ck_X3_add rfl ml_X7_139 ci_X3_add cv_X3_add (K_24 h0) (ci := 3) rfl rfl (Nat.le_of_ble_eq_true rfl) d_X7_addOnce_59) (s_X3_add hst h0 (by omega) (I_24)) kp_V (fun q10 _ => ?_)
  refine r_if_ne (f := (oV Sh)) (pc := 62) 69 d_X7_addOnce_62 (by decide) (fun c11 => ?_) (fun c11 => ?_)
  · refine r_iconst (pc := 69) (0 : Int32) d_X7_addOnce_69 rfl ?_
    refine r_ior (pc := 70) d_X7_addOnce_70 ?_
    refine r_cb (f := (oV Sh)) rfl (fun hb12 => ?_)
    refine r_putI (pc := 71) p_X7_41 (K_22 h0) rfl (Or.inr ⟨rfl, hb12⟩) d_X7_addOnce_71 ?_
    refine r_letD (f := (oV Sh)) (fun D13 => ?_)
    exact r_vret (pc := 74) rfl d_X7_addOnce_74
  · refine r_iconst (pc := 65) (1 : Int32) d_X7_addOnce_65 rfl ?_
    refine r_goto (pc := 66) 70 d_X7_addOnce_66 (by decide) ?_
    refine r_ior (pc := 70) d_X7_addOnce_70 ?_
    refine r_cb (f := (oV Sh)) rfl (fun hb14 => ?_)
    refine r_putI (pc := 71) p_X7_41 (K_22 h0) rfl (Or.inr ⟨rfl, hb14⟩) d_X7_addOnce_71 ?_
    refine r_letD (f := (oV Sh)) (fun D15 => ?_)
    exact r_vret (pc := 74) rfl d_X7_addOnce_74
theorem s_X7_addOnce_14 {X : zX} {Sh : zSh} {d : Nat} (hst : (zl X).stackTraces = false) (h0 : zSh0 Sh) (hd : 1 ≤ d) {v1 : Int32} : ∀ (n : Nat) (v2 : Int32) (v3 : Int32) (D : zD) , Rn X m_X7_addOnce (d + 1) 14 [(0, .ref 22), (1, .int v1), (2, .int v2), (3, .int v3)] [] (Sh, D) ((oV Sh) (fn_X7_addOnce_14 v1 n v2 v3 D)) := by
  intro n
  induction n with
  | zero => intro v2 v3 D; exact Rn_none rfl
  | succ n hk14 =>
    intro v2 v3 D
    rw [fn_X7_addOnce_14]
    refine r_iload_n (pc := 14) 3 d_X7_addOnce_14 rfl rfl ?_
    refine r_sipush (pc := 15) (1024 : Int32) d_X7_addOnce_15 rfl ?_
    refine r_icmp_ge (f := (oV Sh)) (pc := 18) 89 d_X7_addOnce_18 (by decide) (fun c2 => ?_) (fun c2 => ?_)
    · exact r_vret (pc := 89) rfl d_X7_addOnce_89
    · refine r_aload_n (pc := 21) 0 d_X7_addOnce_21 rfl rfl ?_
      refine r_getR (pc := 22) g_X7_22 (K_22 h0) rfl (R_22_3 h0) d_X7_addOnce_22 ?_
      refine r_iload_n (pc := 25) 2 d_X7_addOnce_25 rfl rfl ?_
      refine r_ck (f := (oV Sh)) rfl (fun hc3 => ?_)
      refine q_iald (pc := 26) (j := v2.toNatClampNeg) (K_26 h0) hc3 rfl d_X7_addOnce_26 ?_
      refine r_iload_n (pc := 27) 1 d_X7_addOnce_27 rfl rfl ?_
      refine r_icmp_ne (f := (oV Sh)) (pc := 28) 32 d_X7_addOnce_28 (by decide) (fun c4 => ?_) (fun c4 => ?_)
      · refine r_aload_n (pc := 32) 0 d_X7_addOnce_32 rfl rfl ?_
        refine r_getR (pc := 33) g_X7_22 (K_22 h0) rfl (R_22_3 h0) d_X7_addOnce_33 ?_
        refine r_iload_n (pc := 36) 2 d_X7_addOnce_36 rfl rfl ?_
        refine r_ck (f := (oV Sh)) rfl (fun hc5 => ?_)
        refine q_iald (pc := 37) (j := v2.toNatClampNeg) (K_26 h0) hc5 rfl d_X7_addOnce_37 ?_
        refine r_iconst (pc := 38) (-1 : Int32) d_X7_addOnce_38 rfl ?_
        refine r_icmp_ne (f := (oV Sh)) (pc := 39) 75 d_X7_addOnce_39 (by decide) (fun c6 => ?_) (fun c6 => ?_)
        · refine r_iload_n (pc := 75) 2 d_X7_addOnce_75 rfl rfl ?_
          refine r_iconst (pc := 76) (1 : Int32) d_X7_addOnce_76 rfl ?_
          refine r_iadd (pc := 77) d_X7_addOnce_77 ?_
          refine r_sipush (pc := 78) (1023 : Int32) d_X7_addOnce_78 rfl ?_
          refine r_iand (pc := 81) d_X7_addOnce_81 ?_
          refine r_leti (f := (oV Sh)) (fun x7 => ?_)
          refine r_istore_n (pc := 82) (ls' := [(2, .int x7), (0, .ref 22), (1, .int v1), (3, .int v3)]) d_X7_addOnce_82 rfl (Nat.le_of_ble_eq_true rfl) rfl ?_
          refine r_iinc (pc := 83) ((v3 + (1 : Int32))) 3 (ls' := [(3, .int (v3 + (1 : Int32))), (2, .int x7), (0, .ref 22), (1, .int v1)]) d_X7_addOnce_83 rfl rfl (Nat.le_of_ble_eq_true rfl) rfl ?_
          refine r_goto (pc := 86) 14 d_X7_addOnce_86 (by decide) ?_
          refine r_pick [2, 3, 1, 0] (ls' := [(0, .ref 22), (1, .int v1), (2, .int x7), (3, .int (v3 + (1 : Int32)))]) rfl ?_
          exact hk14 x7 (v3 + (1 : Int32)) D 
        · refine r_pick [0, 1, 2] (ls' := [(0, .ref 22), (1, .int v1), (2, .int v2)]) rfl ?_
          exact s_X7_addOnce_42 hst h0 hd v2 D
      · exact r_vret (pc := 31) rfl d_X7_addOnce_31
theorem s_X7_addOnce {X : zX} {Sh : zSh} {d : Nat} (hst : (zl X).stackTraces = false) (h0 : zSh0 Sh) (hd : 2 ≤ d) {v1 : Int32} {D : zD} : Sd X m_X7_addOnce d [.ref 22, .int v1] (Sh, D) ((oV Sh) (fn_X7_addOnce v1 D)) := by
  obtain ⟨d, rfl⟩ : ∃ e, d = e + 1 := ⟨d - 1, by omega⟩
  replace hd : 1 ≤ d := by omega
  refine z_body ck_X7_addOnce rfl (Nat.le_of_ble_eq_true rfl) rfl hst ?_
  rw [fn_X7_addOnce]
  show Rn X m_X7_addOnce (d + 1) 0 [(0, .ref 22), (1, .int v1)] [] (Sh, D) _
  refine r_iload_n (pc := 0) 1 d_X7_addOnce_0 rfl rfl ?_
  refine r_ldc (pc := 1) d_X7_addOnce_1 cc_X7_165 ?_
  refine r_imul (pc := 3) d_X7_addOnce_3 ?_
  refine r_bipush (pc := 4) (22 : Int32) d_X7_addOnce_4 rfl ?_
  refine r_iushr (pc := 6) d_X7_addOnce_6 ?_
  refine r_sipush (pc := 7) (1023 : Int32) d_X7_addOnce_7 rfl ?_
  refine r_iand (pc := 10) d_X7_addOnce_10 ?_
  refine r_leti (f := (oV Sh)) (fun x1 => ?_)
  refine r_istore_n (pc := 11) (ls' := [(2, .int x1), (0, .ref 22), (1, .int v1)]) d_X7_addOnce_11 rfl (Nat.le_of_ble_eq_true rfl) rfl ?_
  refine r_iconst (pc := 12) (0 : Int32) d_X7_addOnce_12 rfl ?_
  refine r_istore_n (pc := 13) (ls' := [(3, .int (0 : Int32)), (2, .int x1), (0, .ref 22), (1, .int v1)]) d_X7_addOnce_13 rfl (Nat.le_of_ble_eq_true rfl) rfl ?_
  refine r_pick [2, 3, 1, 0] (ls' := [(0, .ref 22), (1, .int v1), (2, .int x1), (3, .int (0 : Int32))]) rfl ?_
  exact s_X7_addOnce_14 hst h0 hd zFU  x1 (0 : Int32) D
/-! CoveredSigns$RuleText.beginSpare -/
theorem d_X7_beginSpare_0 : decode (yB m_X7_beginSpare) 0 = .ok (.aload_n 0, 1) := by decide +kernel
theorem d_X7_beginSpare_1 : decode (yB m_X7_beginSpare) 1 = .ok (.getfield 18, 3) := by decide +kernel
theorem d_X7_beginSpare_4 : decode (yB m_X7_beginSpare) 4 = .ok (.iconst 0, 1) := by decide +kernel
theorem d_X7_beginSpare_5 : decode (yB m_X7_beginSpare) 5 = .ok (.putfield 136, 3) := by decide +kernel
theorem d_X7_beginSpare_8 : decode (yB m_X7_beginSpare) 8 = .ok (.aload_n 0, 1) := by decide +kernel
theorem d_X7_beginSpare_9 : decode (yB m_X7_beginSpare) 9 = .ok (.getfield 22, 3) := by decide +kernel
theorem d_X7_beginSpare_12 : decode (yB m_X7_beginSpare) 12 = .ok (.iconst (-1), 1) := by decide +kernel
theorem d_X7_beginSpare_13 : decode (yB m_X7_beginSpare) 13 = .ok (.invokestatic 159, 3) := by decide +kernel
theorem d_X7_beginSpare_16 : decode (yB m_X7_beginSpare) 16 = .ok (.return_, 1) := by decide +kernel
def fn_X7_beginSpare (D : zD) : Option zD := zlet (sI D 24 1 (0 : Int32)) fun D1 => (fn_JA_fill2 26 1024 (-1 : Int32) D1).bind fun D2 => (some D2)
theorem s_X7_beginSpare {X : zX} {Sh : zSh} {d : Nat} (hst : (zl X).stackTraces = false) (h0 : zSh0 Sh) (hd : 2 ≤ d)  {D : zD} : Sd X m_X7_beginSpare d [.ref 22] (Sh, D) ((oV Sh) (fn_X7_beginSpare D)) := by
  obtain ⟨d, rfl⟩ : ∃ e, d = e + 1 := ⟨d - 1, by omega⟩
  replace hd : 1 ≤ d := by omega
  refine z_body ck_X7_beginSpare rfl (Nat.le_of_ble_eq_true rfl) rfl hst ?_
  rw [fn_X7_beginSpare]
  show Rn X m_X7_beginSpare (d + 1) 0 [(0, .ref 22)] [] (Sh, D) _
  refine r_aload_n (pc := 0) 0 d_X7_beginSpare_0 rfl rfl ?_
  refine r_getR (pc := 1) g_X7_18 (K_22 h0) rfl (R_22_2 h0) d_X7_beginSpare_1 ?_
  refine r_iconst (pc := 4) (0 : Int32) d_X7_beginSpare_4 rfl ?_
  refine r_putIn (pc := 5) p_X7_136 (K_24 h0) rfl (Or.inl rfl) d_X7_beginSpare_5 ?_
  refine r_letD (f := (oV Sh)) (fun D1 => ?_)
  refine r_aload_n (pc := 8) 0 d_X7_beginSpare_8 rfl rfl ?_
  refine r_getR (pc := 9) g_X7_22 (K_22 h0) rfl (R_22_3 h0) d_X7_beginSpare_9 ?_
  refine r_iconst (pc := 12) (-1 : Int32) d_X7_beginSpare_12 rfl ?_
  refine q_cV (f := (oV Sh)) (av := [.ref 26, .int (-1 : Int32)]) (st := []) (z_runS ck_JA_fill2 rfl ml_X7_159 cs_JA_fill2 rfl (Nat.le_of_ble_eq_true rfl) d_X7_beginSpare_13) (s_JA_fill2 hst h0 (by omega) (K_26 h0) (by decide)) kp_V (fun D2 _ => ?_)
  exact r_vret (pc := 16) rfl d_X7_beginSpare_16
/-! CoveredSigns$RuleText.overlay -/
theorem d_X7_overlay_0 : decode (yB m_X7_overlay) 0 = .ok (.aload_n 0, 1) := by decide +kernel
theorem d_X7_overlay_1 : decode (yB m_X7_overlay) 1 = .ok (.getfield 41, 3) := by decide +kernel
theorem d_X7_overlay_4 : decode (yB m_X7_overlay) 4 = .ok (.ifCond .eq 4, 3) := by decide +kernel
theorem d_X7_overlay_7 : decode (yB m_X7_overlay) 7 = .ok (.return_, 1) := by decide +kernel
theorem d_X7_overlay_8 : decode (yB m_X7_overlay) 8 = .ok (.aload_n 0, 1) := by decide +kernel
theorem d_X7_overlay_9 : decode (yB m_X7_overlay) 9 = .ok (.invokevirtual 146, 3) := by decide +kernel
theorem d_X7_overlay_12 : decode (yB m_X7_overlay) 12 = .ok (.iconst 0, 1) := by decide +kernel
theorem d_X7_overlay_13 : decode (yB m_X7_overlay) 13 = .ok (.istore_n 3, 1) := by decide +kernel
theorem d_X7_overlay_14 : decode (yB m_X7_overlay) 14 = .ok (.iload_n 3, 1) := by decide +kernel
theorem d_X7_overlay_15 : decode (yB m_X7_overlay) 15 = .ok (.aload_n 1, 1) := by decide +kernel
theorem d_X7_overlay_16 : decode (yB m_X7_overlay) 16 = .ok (.getfield 136, 3) := by decide +kernel
theorem d_X7_overlay_19 : decode (yB m_X7_overlay) 19 = .ok (.if_icmp .ge 79, 3) := by decide +kernel
theorem d_X7_overlay_22 : decode (yB m_X7_overlay) 22 = .ok (.aload_n 0, 1) := by decide +kernel
theorem d_X7_overlay_23 : decode (yB m_X7_overlay) 23 = .ok (.getfield 41, 3) := by decide +kernel
theorem d_X7_overlay_26 : decode (yB m_X7_overlay) 26 = .ok (.ifCond .ne 72, 3) := by decide +kernel
theorem d_X7_overlay_29 : decode (yB m_X7_overlay) 29 = .ok (.aload_n 1, 1) := by decide +kernel
theorem d_X7_overlay_30 : decode (yB m_X7_overlay) 30 = .ok (.iload_n 3, 1) := by decide +kernel
theorem d_X7_overlay_31 : decode (yB m_X7_overlay) 31 = .ok (.invokevirtual 149, 3) := by decide +kernel
theorem d_X7_overlay_34 : decode (yB m_X7_overlay) 34 = .ok (.istore 4, 2) := by decide +kernel
theorem d_X7_overlay_36 : decode (yB m_X7_overlay) 36 = .ok (.iconst (-1), 1) := by decide +kernel
theorem d_X7_overlay_37 : decode (yB m_X7_overlay) 37 = .ok (.istore 5, 2) := by decide +kernel
theorem d_X7_overlay_39 : decode (yB m_X7_overlay) 39 = .ok (.iconst 0, 1) := by decide +kernel
theorem d_X7_overlay_40 : decode (yB m_X7_overlay) 40 = .ok (.istore 6, 2) := by decide +kernel
theorem d_X7_overlay_42 : decode (yB m_X7_overlay) 42 = .ok (.iload 6, 2) := by decide +kernel
theorem d_X7_overlay_44 : decode (yB m_X7_overlay) 44 = .ok (.aload_n 2, 1) := by decide +kernel
theorem d_X7_overlay_45 : decode (yB m_X7_overlay) 45 = .ok (.getfield 136, 3) := by decide +kernel
theorem d_X7_overlay_48 : decode (yB m_X7_overlay) 48 = .ok (.if_icmp .ge 44, 3) := by decide +kernel
theorem d_X7_overlay_51 : decode (yB m_X7_overlay) 51 = .ok (.aload_n 0, 1) := by decide +kernel
theorem d_X7_overlay_52 : decode (yB m_X7_overlay) 52 = .ok (.getfield 41, 3) := by decide +kernel
theorem d_X7_overlay_55 : decode (yB m_X7_overlay) 55 = .ok (.ifCond .ne 37, 3) := by decide +kernel
theorem d_X7_overlay_58 : decode (yB m_X7_overlay) 58 = .ok (.iload 4, 2) := by decide +kernel
theorem d_X7_overlay_60 : decode (yB m_X7_overlay) 60 = .ok (.aload_n 2, 1) := by decide +kernel
theorem d_X7_overlay_61 : decode (yB m_X7_overlay) 61 = .ok (.iload 6, 2) := by decide +kernel
theorem d_X7_overlay_63 : decode (yB m_X7_overlay) 63 = .ok (.invokevirtual 149, 3) := by decide +kernel
theorem d_X7_overlay_66 : decode (yB m_X7_overlay) 66 = .ok (.ior, 1) := by decide +kernel
theorem d_X7_overlay_67 : decode (yB m_X7_overlay) 67 = .ok (.istore 7, 2) := by decide +kernel
theorem d_X7_overlay_69 : decode (yB m_X7_overlay) 69 = .ok (.iload 7, 2) := by decide +kernel
theorem d_X7_overlay_71 : decode (yB m_X7_overlay) 71 = .ok (.iload 5, 2) := by decide +kernel
theorem d_X7_overlay_73 : decode (yB m_X7_overlay) 73 = .ok (.if_icmp .eq 13, 3) := by decide +kernel
theorem d_X7_overlay_76 : decode (yB m_X7_overlay) 76 = .ok (.aload_n 0, 1) := by decide +kernel
theorem d_X7_overlay_77 : decode (yB m_X7_overlay) 77 = .ok (.iload 7, 2) := by decide +kernel
theorem d_X7_overlay_79 : decode (yB m_X7_overlay) 79 = .ok (.invokevirtual 152, 3) := by decide +kernel
theorem d_X7_overlay_82 : decode (yB m_X7_overlay) 82 = .ok (.iload 7, 2) := by decide +kernel
theorem d_X7_overlay_84 : decode (yB m_X7_overlay) 84 = .ok (.istore 5, 2) := by decide +kernel
theorem d_X7_overlay_86 : decode (yB m_X7_overlay) 86 = .ok (.iinc 6 1, 3) := by decide +kernel
theorem d_X7_overlay_89 : decode (yB m_X7_overlay) 89 = .ok (.goto (-47), 3) := by decide +kernel
theorem d_X7_overlay_92 : decode (yB m_X7_overlay) 92 = .ok (.iinc 3 1, 3) := by decide +kernel
theorem d_X7_overlay_95 : decode (yB m_X7_overlay) 95 = .ok (.goto (-81), 3) := by decide +kernel
theorem d_X7_overlay_98 : decode (yB m_X7_overlay) 98 = .ok (.aload_n 1, 1) := by decide +kernel
theorem d_X7_overlay_99 : decode (yB m_X7_overlay) 99 = .ok (.aload_n 0, 1) := by decide +kernel
theorem d_X7_overlay_100 : decode (yB m_X7_overlay) 100 = .ok (.getfield 18, 3) := by decide +kernel
theorem d_X7_overlay_103 : decode (yB m_X7_overlay) 103 = .ok (.invokevirtual 155, 3) := by decide +kernel
theorem d_X7_overlay_106 : decode (yB m_X7_overlay) 106 = .ok (.return_, 1) := by decide +kernel
def fn_X7_overlay_42 (a1 : Nat) (a2 : Nat) (k14 : Int32 → zD → Option zD) : Nat → Int32 → Int32 → Int32 → Int32 → zD → Option zD
  | 0, _, _, _, _, _ => none
  | n + 1, v3, v4, v5, v6, D => (if (gI D a2 1) ≤ v6 then ((k14 (v3 + (1 : Int32)) D)) else ((if (gI D 22 6) = 0 then ((fn_X3_at a2 v6 D).bind fun x10 => zlet (v4 ||| x10) fun x11 => (if x11 = v5 then (((fn_X7_overlay_42 a1 a2 k14 n) v3 v4 v5 (v6 + (1 : Int32)) D)) else ((fn_X7_addOnce x11 D).bind fun D13 => ((fn_X7_overlay_42 a1 a2 k14 n) v3 v4 x11 (v6 + (1 : Int32)) D13)))) else ((k14 (v3 + (1 : Int32)) D)))))
def fn_X7_overlay_14 (a1 : Nat) (a2 : Nat) : Nat → Int32 → zD → Option zD
  | 0, _, _ => none
  | n + 1, v3, D => (if (gI D a1 1) ≤ v3 then ((fn_X3_copyFrom a1 24 D).bind fun D4 => (some D4)) else ((if (gI D 22 6) = 0 then ((fn_X3_at a1 v3 D).bind fun x7 => (fn_X7_overlay_42 a1 a2 (fn_X7_overlay_14 a1 a2 n) zFU v3 x7 (-1 : Int32) (0 : Int32) D)) else ((fn_X3_copyFrom a1 24 D).bind fun D6 => (some D6)))))
def fn_X7_overlay (a1 : Nat) (a2 : Nat) (D : zD) : Option zD := (if (gI D 22 6) = 0 then ((fn_X7_beginSpare D).bind fun D2 => (fn_X7_overlay_14 a1 a2 zFU (0 : Int32) D2)) else ((some D)))
theorem s_X7_overlay_42 {X : zX} {Sh : zSh} {d : Nat} (hst : (zl X).stackTraces = false) (h0 : zSh0 Sh) (hd : 5 ≤ d) {a1 : Nat} {a2 : Nat} (h_a1 : a1 ∈ zI_3) (h_a2 : a2 ∈ zI_3) (k14 : Int32 → zD → Option zD) (hk14 : ∀ (v3 : Int32) (D : zD) , Rn X m_X7_overlay (d + 1) 14 [(0, .ref 22), (1, .ref a1), (2, .ref a2), (3, .int v3)] [] (Sh, D) ((oV Sh) (k14 v3 D))) : ∀ (n : Nat) (v3 : Int32) (v4 : Int32) (v5 : Int32) (v6 : Int32) (D : zD) , Rn X m_X7_overlay (d + 1) 42 [(0, .ref 22), (1, .ref a1), (2, .ref a2), (3, .int v3), (4, .int v4), (5, .int v5), (6, .int v6)] [] (Sh, D) ((oV Sh) (fn_X7_overlay_42 a1 a2 k14 n v3 v4 v5 v6 D)) := by
  intro n
  induction n with
  | zero => intro v3 v4 v5 v6 D; exact Rn_none rfl
  | succ n hk42 =>
    intro v3 v4 v5 v6 D
    rw [fn_X7_overlay_42]
    refine r_iload (pc := 42) 6 d_X7_overlay_42 rfl ?_
    refine r_aload_n (pc := 44) 2 d_X7_overlay_44 rfl rfl ?_
    refine q_gIn (pc := 45) g_X7_136 (LK_3 h0 h_a2) rfl d_X7_overlay_45 ?_
    refine r_icmp_ge (f := (oV Sh)) (pc := 48) 92 d_X7_overlay_48 (by decide) (fun c8 => ?_) (fun c8 => ?_)
    · refine r_iinc (pc := 92) ((v3 + (1 : Int32))) 3 (ls' := [(3, .int (v3 + (1 : Int32))), (0, .ref 22), (1, .ref a1), (2, .ref a2), (4, .int v4), (5, .int v5), (6, .int v6)]) d_X7_overlay_92 rfl rfl (Nat.le_of_ble_eq_true rfl) rfl ?_
      refine r_goto (pc := 95) 14 d_X7_overlay_95 (by decide) ?_
      refine r_pick [1, 2, 3, 0] (ls' := [(0, .ref 22), (1, .ref a1), (2, .ref a2), (3, .int (v3 + (1 : Int32)))]) rfl ?_
      exact hk14 (v3 + (1 : Int32)) D 
    · refine r_aload_n (pc := 51) 0 d_X7_overlay_51 rfl rfl ?_
      refine q_gI (pc := 52) g_X7_41 (K_22 h0) rfl d_X7_overlay_52 ?_
      refine r_if_ne (f := (oV Sh)) (pc := 55) 92 d_X7_overlay_55 (by decide) (fun c9 => ?_) (fun c9 => ?_)
      · refine r_iinc (pc := 92) ((v3 + (1 : Int32))) 3 (ls' := [(3, .int (v3 + (1 : Int32))), (0, .ref 22), (1, .ref a1), (2, .ref a2), (4, .int v4), (5, .int v5), (6, .int v6)]) d_X7_overlay_92 rfl rfl (Nat.le_of_ble_eq_true rfl) rfl ?_
        refine r_goto (pc := 95) 14 d_X7_overlay_95 (by decide) ?_
        refine r_pick [1, 2, 3, 0] (ls' := [(0, .ref 22), (1, .ref a1), (2, .ref a2), (3, .int (v3 + (1 : Int32)))]) rfl ?_
        exact hk14 (v3 + (1 : Int32)) D 
      · refine r_iload (pc := 58) 4 d_X7_overlay_58 rfl ?_
        refine r_aload_n (pc := 60) 2 d_X7_overlay_60 rfl rfl ?_
        refine r_iload (pc := 61) 6 d_X7_overlay_61 rfl ?_
        refine q_cP (f := (oV Sh)) (av := [.ref a2, .int v6]) (st := [.int v4]) (z_runV ck_X3_at rfl ml_X7_149 ci_X3_at cv_X3_at (LK_3 h0 h_a2) (ci := 3) rfl rfl (Nat.le_of_ble_eq_true rfl) d_X7_overlay_63) (s_X3_at hst h0 (by omega) h_a2) kp_V (fun x10 _ => ?_)
        refine r_ior (pc := 66) d_X7_overlay_66 ?_
        refine r_leti (f := (oV Sh)) (fun x11 => ?_)
        refine r_istore (pc := 67) (ls' := [(7, .int x11), (0, .ref 22), (1, .ref a1), (2, .ref a2), (3, .int v3), (4, .int v4), (5, .int v5), (6, .int v6)]) d_X7_overlay_67 (Nat.le_of_ble_eq_true rfl) rfl ?_
        refine r_iload (pc := 69) 0 d_X7_overlay_69 rfl ?_
        refine r_iload (pc := 71) 6 d_X7_overlay_71 rfl ?_
        refine r_icmp_eq (f := (oV Sh)) (pc := 73) 86 d_X7_overlay_73 (by decide) (fun c12 => ?_) (fun c12 => ?_)
        · refine r_iinc (pc := 86) ((v6 + (1 : Int32))) 7 (ls' := [(6, .int (v6 + (1 : Int32))), (7, .int x11), (0, .ref 22), (1, .ref a1), (2, .ref a2), (3, .int v3), (4, .int v4), (5, .int v5)]) d_X7_overlay_86 rfl rfl (Nat.le_of_ble_eq_true rfl) rfl ?_
          refine r_goto (pc := 89) 42 d_X7_overlay_89 (by decide) ?_
          refine r_pick [2, 3, 4, 5, 6, 7, 0] (ls' := [(0, .ref 22), (1, .ref a1), (2, .ref a2), (3, .int v3), (4, .int v4), (5, .int v5), (6, .int (v6 + (1 : Int32)))]) rfl ?_
          exact hk42 v3 v4 v5 (v6 + (1 : Int32)) D 
        · refine r_aload_n (pc := 76) 1 d_X7_overlay_76 rfl rfl ?_
          refine r_iload (pc := 77) 0 d_X7_overlay_77 rfl ?_
          refine q_cV (f := (oV Sh)) (av := [.ref 22, .int x11]) (st := []) (z_runV ck_X7_addOnce rfl ml_X7_152 ci_X7_addOnce cv_X7_addOnce (K_22 h0) (ci := 7) rfl rfl (Nat.le_of_ble_eq_true rfl) d_X7_overlay_79) (s_X7_addOnce hst h0 (by omega)) kp_V (fun D13 _ => ?_)
          refine r_iload (pc := 82) 0 d_X7_overlay_82 rfl ?_
          refine r_istore (pc := 84) (ls' := [(5, .int x11), (7, .int x11), (0, .ref 22), (1, .ref a1), (2, .ref a2), (3, .int v3), (4, .int v4), (6, .int v6)]) d_X7_overlay_84 (Nat.le_of_ble_eq_true rfl) rfl ?_
          refine r_iinc (pc := 86) ((v6 + (1 : Int32))) 7 (ls' := [(6, .int (v6 + (1 : Int32))), (5, .int x11), (7, .int x11), (0, .ref 22), (1, .ref a1), (2, .ref a2), (3, .int v3), (4, .int v4)]) d_X7_overlay_86 rfl rfl (Nat.le_of_ble_eq_true rfl) rfl ?_
          refine r_goto (pc := 89) 42 d_X7_overlay_89 (by decide) ?_
          refine r_pick [3, 4, 5, 6, 7, 1, 0] (ls' := [(0, .ref 22), (1, .ref a1), (2, .ref a2), (3, .int v3), (4, .int v4), (5, .int x11), (6, .int (v6 + (1 : Int32)))]) rfl ?_
          exact hk42 v3 v4 x11 (v6 + (1 : Int32)) D13 
theorem s_X7_overlay_14 {X : zX} {Sh : zSh} {d : Nat} (hst : (zl X).stackTraces = false) (h0 : zSh0 Sh) (hd : 5 ≤ d) {a1 : Nat} {a2 : Nat} (h_a1 : a1 ∈ zI_3) (h_a2 : a2 ∈ zI_3) : ∀ (n : Nat) (v3 : Int32) (D : zD) , Rn X m_X7_overlay (d + 1) 14 [(0, .ref 22), (1, .ref a1), (2, .ref a2), (3, .int v3)] [] (Sh, D) ((oV Sh) (fn_X7_overlay_14 a1 a2 n v3 D)) := by
  intro n
  induction n with
  | zero => intro v3 D; exact Rn_none rfl
  | succ n hk14 =>
    intro v3 D
    rw [fn_X7_overlay_14]
    refine r_iload_n (pc := 14) 3 d_X7_overlay_14 rfl rfl ?_
    refine r_aload_n (pc := 15) 1 d_X7_overlay_15 rfl rfl ?_
    refine q_gIn (pc := 16) g_X7_136 (LK_3 h0 h_a1) rfl d_X7_overlay_16 ?_
    refine r_icmp_ge (f := (oV Sh)) (pc := 19) 98 d_X7_overlay_19 (by decide) (fun c3 => ?_) (fun c3 => ?_)
    · refine r_aload_n (pc := 98) 1 d_X7_overlay_98 rfl rfl ?_
      refine r_aload_n (pc := 99) 0 d_X7_overlay_99 rfl rfl ?_
      refine r_getR (pc := 100) g_X7_18 (K_22 h0) rfl (R_22_2 h0) d_X7_overlay_100 ?_
      refine q_cV (f := (oV Sh)) (av := [.ref a1, .ref 24]) (st := []) (z_runV ck_X3_copyFrom rfl ml_X7_155 ci_X3_copyFrom cv_X3_copyFrom (LK_3 h0 h_a1) (ci := 3) rfl rfl (Nat.le_of_ble_eq_true rfl) d_X7_overlay_103) (s_X3_copyFrom hst h0 (by omega) h_a1 (I_24)) kp_V (fun D4 _ => ?_)
      exact r_vret (pc := 106) rfl d_X7_overlay_106
    · refine r_aload_n (pc := 22) 0 d_X7_overlay_22 rfl rfl ?_
      refine q_gI (pc := 23) g_X7_41 (K_22 h0) rfl d_X7_overlay_23 ?_
      refine r_if_ne (f := (oV Sh)) (pc := 26) 98 d_X7_overlay_26 (by decide) (fun c5 => ?_) (fun c5 => ?_)
      · refine r_aload_n (pc := 98) 1 d_X7_overlay_98 rfl rfl ?_
        refine r_aload_n (pc := 99) 0 d_X7_overlay_99 rfl rfl ?_
        refine r_getR (pc := 100) g_X7_18 (K_22 h0) rfl (R_22_2 h0) d_X7_overlay_100 ?_
        refine q_cV (f := (oV Sh)) (av := [.ref a1, .ref 24]) (st := []) (z_runV ck_X3_copyFrom rfl ml_X7_155 ci_X3_copyFrom cv_X3_copyFrom (LK_3 h0 h_a1) (ci := 3) rfl rfl (Nat.le_of_ble_eq_true rfl) d_X7_overlay_103) (s_X3_copyFrom hst h0 (by omega) h_a1 (I_24)) kp_V (fun D6 _ => ?_)
        exact r_vret (pc := 106) rfl d_X7_overlay_106
      · refine r_aload_n (pc := 29) 1 d_X7_overlay_29 rfl rfl ?_
        refine r_iload_n (pc := 30) 3 d_X7_overlay_30 rfl rfl ?_
        refine q_cP (f := (oV Sh)) (av := [.ref a1, .int v3]) (st := []) (z_runV ck_X3_at rfl ml_X7_149 ci_X3_at cv_X3_at (LK_3 h0 h_a1) (ci := 3) rfl rfl (Nat.le_of_ble_eq_true rfl) d_X7_overlay_31) (s_X3_at hst h0 (by omega) h_a1) kp_V (fun x7 _ => ?_)
        refine r_istore (pc := 34) (ls' := [(4, .int x7), (0, .ref 22), (1, .ref a1), (2, .ref a2), (3, .int v3)]) d_X7_overlay_34 (Nat.le_of_ble_eq_true rfl) rfl ?_
        refine r_iconst (pc := 36) (-1 : Int32) d_X7_overlay_36 rfl ?_
        refine r_istore (pc := 37) (ls' := [(5, .int (-1 : Int32)), (4, .int x7), (0, .ref 22), (1, .ref a1), (2, .ref a2), (3, .int v3)]) d_X7_overlay_37 (Nat.le_of_ble_eq_true rfl) rfl ?_
        refine r_iconst (pc := 39) (0 : Int32) d_X7_overlay_39 rfl ?_
        refine r_istore (pc := 40) (ls' := [(6, .int (0 : Int32)), (5, .int (-1 : Int32)), (4, .int x7), (0, .ref 22), (1, .ref a1), (2, .ref a2), (3, .int v3)]) d_X7_overlay_40 (Nat.le_of_ble_eq_true rfl) rfl ?_
        refine r_pick [3, 4, 5, 6, 2, 1, 0] (ls' := [(0, .ref 22), (1, .ref a1), (2, .ref a2), (3, .int v3), (4, .int x7), (5, .int (-1 : Int32)), (6, .int (0 : Int32))]) rfl ?_
        exact s_X7_overlay_42 hst h0 hd h_a1 h_a2 (fn_X7_overlay_14 a1 a2 n) hk14 zFU  v3 x7 (-1 : Int32) (0 : Int32) D
theorem s_X7_overlay {X : zX} {Sh : zSh} {d : Nat} (hst : (zl X).stackTraces = false) (h0 : zSh0 Sh) (hd : 6 ≤ d) {a1 : Nat} {a2 : Nat} (h_a1 : a1 ∈ zI_3) (h_a2 : a2 ∈ zI_3) {D : zD} : Sd X m_X7_overlay d [.ref 22, .ref a1, .ref a2] (Sh, D) ((oV Sh) (fn_X7_overlay a1 a2 D)) := by
  obtain ⟨d, rfl⟩ : ∃ e, d = e + 1 := ⟨d - 1, by omega⟩
  replace hd : 5 ≤ d := by omega
  refine z_body ck_X7_overlay rfl (Nat.le_of_ble_eq_true rfl) rfl hst ?_
  rw [fn_X7_overlay]
  show Rn X m_X7_overlay (d + 1) 0 [(0, .ref 22), (1, .ref a1), (2, .ref a2)] [] (Sh, D) _
  refine r_aload_n (pc := 0) 0 d_X7_overlay_0 rfl rfl ?_
  refine q_gI (pc := 1) g_X7_41 (K_22 h0) rfl d_X7_overlay_1 ?_
  refine r_if_eq (f := (oV Sh)) (pc := 4) 8 d_X7_overlay_4 (by decide) (fun c1 => ?_) (fun c1 => ?_)
  · refine r_aload_n (pc := 8) 0 d_X7_overlay_8 rfl rfl ?_
    refine q_cV (f := (oV Sh)) (av := [.ref 22]) (st := []) (z_runV ck_X7_beginSpare rfl ml_X7_146 ci_X7_beginSpare cv_X7_beginSpare (K_22 h0) (ci := 7) rfl rfl (Nat.le_of_ble_eq_true rfl) d_X7_overlay_9) (s_X7_beginSpare hst h0 (by omega)) kp_V (fun D2 _ => ?_)
    refine r_iconst (pc := 12) (0 : Int32) d_X7_overlay_12 rfl ?_
    refine r_istore_n (pc := 13) (ls' := [(3, .int (0 : Int32)), (0, .ref 22), (1, .ref a1), (2, .ref a2)]) d_X7_overlay_13 rfl (Nat.le_of_ble_eq_true rfl) rfl ?_
    refine r_pick [1, 2, 3, 0] (ls' := [(0, .ref 22), (1, .ref a1), (2, .ref a2), (3, .int (0 : Int32))]) rfl ?_
    exact s_X7_overlay_14 hst h0 hd h_a1 h_a2 zFU  (0 : Int32) D2
  · exact r_vret (pc := 7) rfl d_X7_overlay_7
/-! CoveredSigns$RuleText.unite -/
theorem d_X7_unite_0 : decode (yB m_X7_unite) 0 = .ok (.aload_n 0, 1) := by decide +kernel
theorem d_X7_unite_1 : decode (yB m_X7_unite) 1 = .ok (.getfield 41, 3) := by decide +kernel
theorem d_X7_unite_4 : decode (yB m_X7_unite) 4 = .ok (.ifCond .eq 4, 3) := by decide +kernel
theorem d_X7_unite_7 : decode (yB m_X7_unite) 7 = .ok (.return_, 1) := by decide +kernel
theorem d_X7_unite_8 : decode (yB m_X7_unite) 8 = .ok (.aload_n 0, 1) := by decide +kernel
theorem d_X7_unite_9 : decode (yB m_X7_unite) 9 = .ok (.invokevirtual 146, 3) := by decide +kernel
theorem d_X7_unite_12 : decode (yB m_X7_unite) 12 = .ok (.iconst 0, 1) := by decide +kernel
theorem d_X7_unite_13 : decode (yB m_X7_unite) 13 = .ok (.istore_n 3, 1) := by decide +kernel
theorem d_X7_unite_14 : decode (yB m_X7_unite) 14 = .ok (.iload_n 3, 1) := by decide +kernel
theorem d_X7_unite_15 : decode (yB m_X7_unite) 15 = .ok (.aload_n 1, 1) := by decide +kernel
theorem d_X7_unite_16 : decode (yB m_X7_unite) 16 = .ok (.getfield 136, 3) := by decide +kernel
theorem d_X7_unite_19 : decode (yB m_X7_unite) 19 = .ok (.if_icmp .ge 25, 3) := by decide +kernel
theorem d_X7_unite_22 : decode (yB m_X7_unite) 22 = .ok (.aload_n 0, 1) := by decide +kernel
theorem d_X7_unite_23 : decode (yB m_X7_unite) 23 = .ok (.getfield 41, 3) := by decide +kernel
theorem d_X7_unite_26 : decode (yB m_X7_unite) 26 = .ok (.ifCond .ne 18, 3) := by decide +kernel
theorem d_X7_unite_29 : decode (yB m_X7_unite) 29 = .ok (.aload_n 0, 1) := by decide +kernel
theorem d_X7_unite_30 : decode (yB m_X7_unite) 30 = .ok (.aload_n 1, 1) := by decide +kernel
theorem d_X7_unite_31 : decode (yB m_X7_unite) 31 = .ok (.iload_n 3, 1) := by decide +kernel
theorem d_X7_unite_32 : decode (yB m_X7_unite) 32 = .ok (.invokevirtual 149, 3) := by decide +kernel
theorem d_X7_unite_35 : decode (yB m_X7_unite) 35 = .ok (.invokevirtual 152, 3) := by decide +kernel
theorem d_X7_unite_38 : decode (yB m_X7_unite) 38 = .ok (.iinc 3 1, 3) := by decide +kernel
theorem d_X7_unite_41 : decode (yB m_X7_unite) 41 = .ok (.goto (-27), 3) := by decide +kernel
theorem d_X7_unite_44 : decode (yB m_X7_unite) 44 = .ok (.iconst 0, 1) := by decide +kernel
theorem d_X7_unite_45 : decode (yB m_X7_unite) 45 = .ok (.istore_n 3, 1) := by decide +kernel
theorem d_X7_unite_46 : decode (yB m_X7_unite) 46 = .ok (.iload_n 3, 1) := by decide +kernel
theorem d_X7_unite_47 : decode (yB m_X7_unite) 47 = .ok (.aload_n 2, 1) := by decide +kernel
theorem d_X7_unite_48 : decode (yB m_X7_unite) 48 = .ok (.getfield 136, 3) := by decide +kernel
theorem d_X7_unite_51 : decode (yB m_X7_unite) 51 = .ok (.if_icmp .ge 25, 3) := by decide +kernel
theorem d_X7_unite_54 : decode (yB m_X7_unite) 54 = .ok (.aload_n 0, 1) := by decide +kernel
theorem d_X7_unite_55 : decode (yB m_X7_unite) 55 = .ok (.getfield 41, 3) := by decide +kernel
theorem d_X7_unite_58 : decode (yB m_X7_unite) 58 = .ok (.ifCond .ne 18, 3) := by decide +kernel
theorem d_X7_unite_61 : decode (yB m_X7_unite) 61 = .ok (.aload_n 0, 1) := by decide +kernel
theorem d_X7_unite_62 : decode (yB m_X7_unite) 62 = .ok (.aload_n 2, 1) := by decide +kernel
theorem d_X7_unite_63 : decode (yB m_X7_unite) 63 = .ok (.iload_n 3, 1) := by decide +kernel
theorem d_X7_unite_64 : decode (yB m_X7_unite) 64 = .ok (.invokevirtual 149, 3) := by decide +kernel
theorem d_X7_unite_67 : decode (yB m_X7_unite) 67 = .ok (.invokevirtual 152, 3) := by decide +kernel
theorem d_X7_unite_70 : decode (yB m_X7_unite) 70 = .ok (.iinc 3 1, 3) := by decide +kernel
theorem d_X7_unite_73 : decode (yB m_X7_unite) 73 = .ok (.goto (-27), 3) := by decide +kernel
theorem d_X7_unite_76 : decode (yB m_X7_unite) 76 = .ok (.aload_n 1, 1) := by decide +kernel
theorem d_X7_unite_77 : decode (yB m_X7_unite) 77 = .ok (.aload_n 0, 1) := by decide +kernel
theorem d_X7_unite_78 : decode (yB m_X7_unite) 78 = .ok (.getfield 18, 3) := by decide +kernel
theorem d_X7_unite_81 : decode (yB m_X7_unite) 81 = .ok (.invokevirtual 155, 3) := by decide +kernel
theorem d_X7_unite_84 : decode (yB m_X7_unite) 84 = .ok (.return_, 1) := by decide +kernel
def fn_X7_unite_46 (a1 : Nat) (a2 : Nat) : Nat → Int32 → zD → Option zD
  | 0, _, _ => none
  | n + 1, v3, D => (if (gI D a2 1) ≤ v3 then ((fn_X3_copyFrom a1 24 D).bind fun D5 => (some D5)) else ((if (gI D 22 6) = 0 then ((fn_X3_at a2 v3 D).bind fun x8 => (fn_X7_addOnce x8 D).bind fun D9 => ((fn_X7_unite_46 a1 a2 n) (v3 + (1 : Int32)) D9)) else ((fn_X3_copyFrom a1 24 D).bind fun D7 => (some D7)))))
def fn_X7_unite_14 (a1 : Nat) (a2 : Nat) : Nat → Int32 → zD → Option zD
  | 0, _, _ => none
  | n + 1, v3, D => (if (gI D a1 1) ≤ v3 then ((fn_X7_unite_46 a1 a2 zFU (0 : Int32) D)) else ((if (gI D 22 6) = 0 then ((fn_X3_at a1 v3 D).bind fun x11 => (fn_X7_addOnce x11 D).bind fun D12 => ((fn_X7_unite_14 a1 a2 n) (v3 + (1 : Int32)) D12)) else ((fn_X7_unite_46 a1 a2 zFU (0 : Int32) D)))))
def fn_X7_unite (a1 : Nat) (a2 : Nat) (D : zD) : Option zD := (if (gI D 22 6) = 0 then ((fn_X7_beginSpare D).bind fun D2 => (fn_X7_unite_14 a1 a2 zFU (0 : Int32) D2)) else ((some D)))
theorem s_X7_unite_46 {X : zX} {Sh : zSh} {d : Nat} (hst : (zl X).stackTraces = false) (h0 : zSh0 Sh) (hd : 5 ≤ d) {a1 : Nat} {a2 : Nat} (h_a1 : a1 ∈ zI_3) (h_a2 : a2 ∈ zI_3) : ∀ (n : Nat) (v3 : Int32) (D : zD) , Rn X m_X7_unite (d + 1) 46 [(0, .ref 22), (1, .ref a1), (2, .ref a2), (3, .int v3)] [] (Sh, D) ((oV Sh) (fn_X7_unite_46 a1 a2 n v3 D)) := by
  intro n
  induction n with
  | zero => intro v3 D; exact Rn_none rfl
  | succ n hk46 =>
    intro v3 D
    rw [fn_X7_unite_46]
    refine r_iload_n (pc := 46) 3 d_X7_unite_46 rfl rfl ?_
    refine r_aload_n (pc := 47) 2 d_X7_unite_47 rfl rfl ?_
    refine q_gIn (pc := 48) g_X7_136 (LK_3 h0 h_a2) rfl d_X7_unite_48 ?_
    refine r_icmp_ge (f := (oV Sh)) (pc := 51) 76 d_X7_unite_51 (by decide) (fun c4 => ?_) (fun c4 => ?_)
    · refine r_aload_n (pc := 76) 1 d_X7_unite_76 rfl rfl ?_
      refine r_aload_n (pc := 77) 0 d_X7_unite_77 rfl rfl ?_
      refine r_getR (pc := 78) g_X7_18 (K_22 h0) rfl (R_22_2 h0) d_X7_unite_78 ?_
      refine q_cV (f := (oV Sh)) (av := [.ref a1, .ref 24]) (st := []) (z_runV ck_X3_copyFrom rfl ml_X7_155 ci_X3_copyFrom cv_X3_copyFrom (LK_3 h0 h_a1) (ci := 3) rfl rfl (Nat.le_of_ble_eq_true rfl) d_X7_unite_81) (s_X3_copyFrom hst h0 (by omega) h_a1 (I_24)) kp_V (fun D5 _ => ?_)
      exact r_vret (pc := 84) rfl d_X7_unite_84
    · refine r_aload_n (pc := 54) 0 d_X7_unite_54 rfl rfl ?_
      refine q_gI (pc := 55) g_X7_41 (K_22 h0) rfl d_X7_unite_55 ?_
      refine r_if_ne (f := (oV Sh)) (pc := 58) 76 d_X7_unite_58 (by decide) (fun c6 => ?_) (fun c6 => ?_)
      · refine r_aload_n (pc := 76) 1 d_X7_unite_76 rfl rfl ?_
        refine r_aload_n (pc := 77) 0 d_X7_unite_77 rfl rfl ?_
        refine r_getR (pc := 78) g_X7_18 (K_22 h0) rfl (R_22_2 h0) d_X7_unite_78 ?_
        refine q_cV (f := (oV Sh)) (av := [.ref a1, .ref 24]) (st := []) (z_runV ck_X3_copyFrom rfl ml_X7_155 ci_X3_copyFrom cv_X3_copyFrom (LK_3 h0 h_a1) (ci := 3) rfl rfl (Nat.le_of_ble_eq_true rfl) d_X7_unite_81) (s_X3_copyFrom hst h0 (by omega) h_a1 (I_24)) kp_V (fun D7 _ => ?_)
        exact r_vret (pc := 84) rfl d_X7_unite_84
      · refine r_aload_n (pc := 61) 0 d_X7_unite_61 rfl rfl ?_
        refine r_aload_n (pc := 62) 2 d_X7_unite_62 rfl rfl ?_
        refine r_iload_n (pc := 63) 3 d_X7_unite_63 rfl rfl ?_
        refine q_cP (f := (oV Sh)) (av := [.ref a2, .int v3]) (st := [.ref 22]) (z_runV ck_X3_at rfl ml_X7_149 ci_X3_at cv_X3_at (LK_3 h0 h_a2) (ci := 3) rfl rfl (Nat.le_of_ble_eq_true rfl) d_X7_unite_64) (s_X3_at hst h0 (by omega) h_a2) kp_V (fun x8 _ => ?_)
        refine q_cV (f := (oV Sh)) (av := [.ref 22, .int x8]) (st := []) (z_runV ck_X7_addOnce rfl ml_X7_152 ci_X7_addOnce cv_X7_addOnce (K_22 h0) (ci := 7) rfl rfl (Nat.le_of_ble_eq_true rfl) d_X7_unite_67) (s_X7_addOnce hst h0 (by omega)) kp_V (fun D9 _ => ?_)
        refine r_iinc (pc := 70) ((v3 + (1 : Int32))) 3 (ls' := [(3, .int (v3 + (1 : Int32))), (0, .ref 22), (1, .ref a1), (2, .ref a2)]) d_X7_unite_70 rfl rfl (Nat.le_of_ble_eq_true rfl) rfl ?_
        refine r_goto (pc := 73) 46 d_X7_unite_73 (by decide) ?_
        refine r_pick [1, 2, 3, 0] (ls' := [(0, .ref 22), (1, .ref a1), (2, .ref a2), (3, .int (v3 + (1 : Int32)))]) rfl ?_
        exact hk46 (v3 + (1 : Int32)) D9 
theorem s_X7_unite_14 {X : zX} {Sh : zSh} {d : Nat} (hst : (zl X).stackTraces = false) (h0 : zSh0 Sh) (hd : 5 ≤ d) {a1 : Nat} {a2 : Nat} (h_a1 : a1 ∈ zI_3) (h_a2 : a2 ∈ zI_3) : ∀ (n : Nat) (v3 : Int32) (D : zD) , Rn X m_X7_unite (d + 1) 14 [(0, .ref 22), (1, .ref a1), (2, .ref a2), (3, .int v3)] [] (Sh, D) ((oV Sh) (fn_X7_unite_14 a1 a2 n v3 D)) := by
  intro n
  induction n with
  | zero => intro v3 D; exact Rn_none rfl
  | succ n hk14 =>
    intro v3 D
    rw [fn_X7_unite_14]
    refine r_iload_n (pc := 14) 3 d_X7_unite_14 rfl rfl ?_
    refine r_aload_n (pc := 15) 1 d_X7_unite_15 rfl rfl ?_
    refine q_gIn (pc := 16) g_X7_136 (LK_3 h0 h_a1) rfl d_X7_unite_16 ?_
    refine r_icmp_ge (f := (oV Sh)) (pc := 19) 44 d_X7_unite_19 (by decide) (fun c3 => ?_) (fun c3 => ?_)
    · refine r_iconst (pc := 44) (0 : Int32) d_X7_unite_44 rfl ?_
      refine r_istore_n (pc := 45) (ls' := [(3, .int (0 : Int32)), (0, .ref 22), (1, .ref a1), (2, .ref a2)]) d_X7_unite_45 rfl (Nat.le_of_ble_eq_true rfl) rfl ?_
      refine r_pick [1, 2, 3, 0] (ls' := [(0, .ref 22), (1, .ref a1), (2, .ref a2), (3, .int (0 : Int32))]) rfl ?_
      exact s_X7_unite_46 hst h0 hd h_a1 h_a2 zFU  (0 : Int32) D
    · refine r_aload_n (pc := 22) 0 d_X7_unite_22 rfl rfl ?_
      refine q_gI (pc := 23) g_X7_41 (K_22 h0) rfl d_X7_unite_23 ?_
      refine r_if_ne (f := (oV Sh)) (pc := 26) 44 d_X7_unite_26 (by decide) (fun c10 => ?_) (fun c10 => ?_)
      · refine r_iconst (pc := 44) (0 : Int32) d_X7_unite_44 rfl ?_
        refine r_istore_n (pc := 45) (ls' := [(3, .int (0 : Int32)), (0, .ref 22), (1, .ref a1), (2, .ref a2)]) d_X7_unite_45 rfl (Nat.le_of_ble_eq_true rfl) rfl ?_
        refine r_pick [1, 2, 3, 0] (ls' := [(0, .ref 22), (1, .ref a1), (2, .ref a2), (3, .int (0 : Int32))]) rfl ?_
        exact s_X7_unite_46 hst h0 hd h_a1 h_a2 zFU  (0 : Int32) D
      · refine r_aload_n (pc := 29) 0 d_X7_unite_29 rfl rfl ?_
        refine r_aload_n (pc := 30) 1 d_X7_unite_30 rfl rfl ?_
        refine r_iload_n (pc := 31) 3 d_X7_unite_31 rfl rfl ?_
        refine q_cP (f := (oV Sh)) (av := [.ref a1, .int v3]) (st := [.ref 22]) (z_runV ck_X3_at rfl ml_X7_149 ci_X3_at cv_X3_at (LK_3 h0 h_a1) (ci := 3) rfl rfl (Nat.le_of_ble_eq_true rfl) d_X7_unite_32) (s_X3_at hst h0 (by omega) h_a1) kp_V (fun x11 _ => ?_)
        refine q_cV (f := (oV Sh)) (av := [.ref 22, .int x11]) (st := []) (z_runV ck_X7_addOnce rfl ml_X7_152 ci_X7_addOnce cv_X7_addOnce (K_22 h0) (ci := 7) rfl rfl (Nat.le_of_ble_eq_true rfl) d_X7_unite_35) (s_X7_addOnce hst h0 (by omega)) kp_V (fun D12 _ => ?_)
        refine r_iinc (pc := 38) ((v3 + (1 : Int32))) 3 (ls' := [(3, .int (v3 + (1 : Int32))), (0, .ref 22), (1, .ref a1), (2, .ref a2)]) d_X7_unite_38 rfl rfl (Nat.le_of_ble_eq_true rfl) rfl ?_
        refine r_goto (pc := 41) 14 d_X7_unite_41 (by decide) ?_
        refine r_pick [1, 2, 3, 0] (ls' := [(0, .ref 22), (1, .ref a1), (2, .ref a2), (3, .int (v3 + (1 : Int32)))]) rfl ?_
        exact hk14 (v3 + (1 : Int32)) D12 
theorem s_X7_unite {X : zX} {Sh : zSh} {d : Nat} (hst : (zl X).stackTraces = false) (h0 : zSh0 Sh) (hd : 6 ≤ d) {a1 : Nat} {a2 : Nat} (h_a1 : a1 ∈ zI_3) (h_a2 : a2 ∈ zI_3) {D : zD} : Sd X m_X7_unite d [.ref 22, .ref a1, .ref a2] (Sh, D) ((oV Sh) (fn_X7_unite a1 a2 D)) := by
  obtain ⟨d, rfl⟩ : ∃ e, d = e + 1 := ⟨d - 1, by omega⟩
  replace hd : 5 ≤ d := by omega
  refine z_body ck_X7_unite rfl (Nat.le_of_ble_eq_true rfl) rfl hst ?_
  rw [fn_X7_unite]
  show Rn X m_X7_unite (d + 1) 0 [(0, .ref 22), (1, .ref a1), (2, .ref a2)] [] (Sh, D) _
  refine r_aload_n (pc := 0) 0 d_X7_unite_0 rfl rfl ?_
  refine q_gI (pc := 1) g_X7_41 (K_22 h0) rfl d_X7_unite_1 ?_
  refine r_if_eq (f := (oV Sh)) (pc := 4) 8 d_X7_unite_4 (by decide) (fun c1 => ?_) (fun c1 => ?_)
  · refine r_aload_n (pc := 8) 0 d_X7_unite_8 rfl rfl ?_
    refine q_cV (f := (oV Sh)) (av := [.ref 22]) (st := []) (z_runV ck_X7_beginSpare rfl ml_X7_146 ci_X7_beginSpare cv_X7_beginSpare (K_22 h0) (ci := 7) rfl rfl (Nat.le_of_ble_eq_true rfl) d_X7_unite_9) (s_X7_beginSpare hst h0 (by omega)) kp_V (fun D2 _ => ?_)
    refine r_iconst (pc := 12) (0 : Int32) d_X7_unite_12 rfl ?_
    refine r_istore_n (pc := 13) (ls' := [(3, .int (0 : Int32)), (0, .ref 22), (1, .ref a1), (2, .ref a2)]) d_X7_unite_13 rfl (Nat.le_of_ble_eq_true rfl) rfl ?_
    refine r_pick [1, 2, 3, 0] (ls' := [(0, .ref 22), (1, .ref a1), (2, .ref a2), (3, .int (0 : Int32))]) rfl ?_
    exact s_X7_unite_14 hst h0 hd h_a1 h_a2 zFU  (0 : Int32) D2
  · exact r_vret (pc := 7) rfl d_X7_unite_7
/-! CoveredSigns$RuleText.single -/
theorem d_X7_single_0 : decode (yB m_X7_single) 0 = .ok (.aload_n 0, 1) := by decide +kernel
theorem d_X7_single_1 : decode (yB m_X7_single) 1 = .ok (.getfield 26, 3) := by decide +kernel
theorem d_X7_single_4 : decode (yB m_X7_single) 4 = .ok (.invokevirtual 55, 3) := by decide +kernel
theorem d_X7_single_7 : decode (yB m_X7_single) 7 = .ok (.istore_n 3, 1) := by decide +kernel
theorem d_X7_single_8 : decode (yB m_X7_single) 8 = .ok (.aload_n 0, 1) := by decide +kernel
theorem d_X7_single_9 : decode (yB m_X7_single) 9 = .ok (.getfield 26, 3) := by decide +kernel
theorem d_X7_single_12 : decode (yB m_X7_single) 12 = .ok (.bipush 91, 2) := by decide +kernel
theorem d_X7_single_14 : decode (yB m_X7_single) 14 = .ok (.invokevirtual 86, 3) := by decide +kernel
theorem d_X7_single_17 : decode (yB m_X7_single) 17 = .ok (.ifCond .eq 48, 3) := by decide +kernel
theorem d_X7_single_20 : decode (yB m_X7_single) 20 = .ok (.iload_n 1, 1) := by decide +kernel
theorem d_X7_single_21 : decode (yB m_X7_single) 21 = .ok (.bipush 6, 2) := by decide +kernel
theorem d_X7_single_23 : decode (yB m_X7_single) 23 = .ok (.if_icmp .lt 13, 3) := by decide +kernel
theorem d_X7_single_26 : decode (yB m_X7_single) 26 = .ok (.aload_n 0, 1) := by decide +kernel
theorem d_X7_single_27 : decode (yB m_X7_single) 27 = .ok (.getfield 26, 3) := by decide +kernel
theorem d_X7_single_30 : decode (yB m_X7_single) 30 = .ok (.iconst 3, 1) := by decide +kernel
theorem d_X7_single_31 : decode (yB m_X7_single) 31 = .ok (.iload_n 3, 1) := by decide +kernel
theorem d_X7_single_32 : decode (yB m_X7_single) 32 = .ok (.invokevirtual 59, 3) := by decide +kernel
theorem d_X7_single_35 : decode (yB m_X7_single) 35 = .ok (.ireturn, 1) := by decide +kernel
theorem d_X7_single_36 : decode (yB m_X7_single) 36 = .ok (.aload_n 0, 1) := by decide +kernel
theorem d_X7_single_37 : decode (yB m_X7_single) 37 = .ok (.iload_n 1, 1) := by decide +kernel
theorem d_X7_single_38 : decode (yB m_X7_single) 38 = .ok (.iconst 1, 1) := by decide +kernel
theorem d_X7_single_39 : decode (yB m_X7_single) 39 = .ok (.iadd, 1) := by decide +kernel
theorem d_X7_single_40 : decode (yB m_X7_single) 40 = .ok (.iload_n 2, 1) := by decide +kernel
theorem d_X7_single_41 : decode (yB m_X7_single) 41 = .ok (.invokevirtual 45, 3) := by decide +kernel
theorem d_X7_single_44 : decode (yB m_X7_single) 44 = .ok (.ifCond .eq 19, 3) := by decide +kernel
theorem d_X7_single_47 : decode (yB m_X7_single) 47 = .ok (.aload_n 0, 1) := by decide +kernel
theorem d_X7_single_48 : decode (yB m_X7_single) 48 = .ok (.getfield 26, 3) := by decide +kernel
theorem d_X7_single_51 : decode (yB m_X7_single) 51 = .ok (.bipush 93, 2) := by decide +kernel
theorem d_X7_single_53 : decode (yB m_X7_single) 53 = .ok (.invokevirtual 90, 3) := by decide +kernel
theorem d_X7_single_56 : decode (yB m_X7_single) 56 = .ok (.ifCond .eq 7, 3) := by decide +kernel
theorem d_X7_single_59 : decode (yB m_X7_single) 59 = .ok (.iconst 1, 1) := by decide +kernel
theorem d_X7_single_60 : decode (yB m_X7_single) 60 = .ok (.goto 4, 3) := by decide +kernel
theorem d_X7_single_63 : decode (yB m_X7_single) 63 = .ok (.iconst 0, 1) := by decide +kernel
theorem d_X7_single_64 : decode (yB m_X7_single) 64 = .ok (.ireturn, 1) := by decide +kernel
theorem d_X7_single_65 : decode (yB m_X7_single) 65 = .ok (.aload_n 0, 1) := by decide +kernel
theorem d_X7_single_66 : decode (yB m_X7_single) 66 = .ok (.getfield 26, 3) := by decide +kernel
theorem d_X7_single_69 : decode (yB m_X7_single) 69 = .ok (.ldc 93, 2) := by decide +kernel
theorem d_X7_single_71 : decode (yB m_X7_single) 71 = .ok (.invokevirtual 70, 3) := by decide +kernel
theorem d_X7_single_74 : decode (yB m_X7_single) 74 = .ok (.ifCond .eq 48, 3) := by decide +kernel
theorem d_X7_single_77 : decode (yB m_X7_single) 77 = .ok (.iload_n 1, 1) := by decide +kernel
theorem d_X7_single_78 : decode (yB m_X7_single) 78 = .ok (.bipush 6, 2) := by decide +kernel
theorem d_X7_single_80 : decode (yB m_X7_single) 80 = .ok (.if_icmp .lt 13, 3) := by decide +kernel
theorem d_X7_single_83 : decode (yB m_X7_single) 83 = .ok (.aload_n 0, 1) := by decide +kernel
theorem d_X7_single_84 : decode (yB m_X7_single) 84 = .ok (.getfield 26, 3) := by decide +kernel
theorem d_X7_single_87 : decode (yB m_X7_single) 87 = .ok (.iconst 3, 1) := by decide +kernel
theorem d_X7_single_88 : decode (yB m_X7_single) 88 = .ok (.iload_n 3, 1) := by decide +kernel
theorem d_X7_single_89 : decode (yB m_X7_single) 89 = .ok (.invokevirtual 59, 3) := by decide +kernel
theorem d_X7_single_92 : decode (yB m_X7_single) 92 = .ok (.ireturn, 1) := by decide +kernel
theorem d_X7_single_93 : decode (yB m_X7_single) 93 = .ok (.aload_n 0, 1) := by decide +kernel
theorem d_X7_single_94 : decode (yB m_X7_single) 94 = .ok (.iload_n 1, 1) := by decide +kernel
theorem d_X7_single_95 : decode (yB m_X7_single) 95 = .ok (.iconst 1, 1) := by decide +kernel
theorem d_X7_single_96 : decode (yB m_X7_single) 96 = .ok (.iadd, 1) := by decide +kernel
theorem d_X7_single_97 : decode (yB m_X7_single) 97 = .ok (.iload_n 2, 1) := by decide +kernel
theorem d_X7_single_98 : decode (yB m_X7_single) 98 = .ok (.invokevirtual 78, 3) := by decide +kernel
theorem d_X7_single_101 : decode (yB m_X7_single) 101 = .ok (.ifCond .eq 19, 3) := by decide +kernel
theorem d_X7_single_104 : decode (yB m_X7_single) 104 = .ok (.aload_n 0, 1) := by decide +kernel
theorem d_X7_single_105 : decode (yB m_X7_single) 105 = .ok (.aload_n 0, 1) := by decide +kernel
theorem d_X7_single_106 : decode (yB m_X7_single) 106 = .ok (.iload_n 2, 1) := by decide +kernel
theorem d_X7_single_107 : decode (yB m_X7_single) 107 = .ok (.invokevirtual 30, 3) := by decide +kernel
theorem d_X7_single_110 : decode (yB m_X7_single) 110 = .ok (.invokevirtual 95, 3) := by decide +kernel
theorem d_X7_single_113 : decode (yB m_X7_single) 113 = .ok (.ifCond .eq 7, 3) := by decide +kernel
theorem d_X7_single_116 : decode (yB m_X7_single) 116 = .ok (.iconst 1, 1) := by decide +kernel
theorem d_X7_single_117 : decode (yB m_X7_single) 117 = .ok (.goto 4, 3) := by decide +kernel
theorem d_X7_single_120 : decode (yB m_X7_single) 120 = .ok (.iconst 0, 1) := by decide +kernel
theorem d_X7_single_121 : decode (yB m_X7_single) 121 = .ok (.ireturn, 1) := by decide +kernel
theorem d_X7_single_122 : decode (yB m_X7_single) 122 = .ok (.aload_n 0, 1) := by decide +kernel
theorem d_X7_single_123 : decode (yB m_X7_single) 123 = .ok (.getfield 26, 3) := by decide +kernel
theorem d_X7_single_126 : decode (yB m_X7_single) 126 = .ok (.ldc 99, 2) := by decide +kernel
theorem d_X7_single_128 : decode (yB m_X7_single) 128 = .ok (.invokevirtual 70, 3) := by decide +kernel
theorem d_X7_single_131 : decode (yB m_X7_single) 131 = .ok (.ifCond .eq 13, 3) := by decide +kernel
theorem d_X7_single_134 : decode (yB m_X7_single) 134 = .ok (.aload_n 0, 1) := by decide +kernel
theorem d_X7_single_135 : decode (yB m_X7_single) 135 = .ok (.aload_n 0, 1) := by decide +kernel
theorem d_X7_single_136 : decode (yB m_X7_single) 136 = .ok (.iload_n 2, 1) := by decide +kernel
theorem d_X7_single_137 : decode (yB m_X7_single) 137 = .ok (.invokevirtual 30, 3) := by decide +kernel
theorem d_X7_single_140 : decode (yB m_X7_single) 140 = .ok (.invokevirtual 101, 3) := by decide +kernel
theorem d_X7_single_143 : decode (yB m_X7_single) 143 = .ok (.ireturn, 1) := by decide +kernel
theorem d_X7_single_144 : decode (yB m_X7_single) 144 = .ok (.aload_n 0, 1) := by decide +kernel
theorem d_X7_single_145 : decode (yB m_X7_single) 145 = .ok (.getfield 26, 3) := by decide +kernel
theorem d_X7_single_148 : decode (yB m_X7_single) 148 = .ok (.ldc 103, 2) := by decide +kernel
theorem d_X7_single_150 : decode (yB m_X7_single) 150 = .ok (.invokevirtual 70, 3) := by decide +kernel
theorem d_X7_single_153 : decode (yB m_X7_single) 153 = .ok (.ifCond .eq 13, 3) := by decide +kernel
theorem d_X7_single_156 : decode (yB m_X7_single) 156 = .ok (.aload_n 0, 1) := by decide +kernel
theorem d_X7_single_157 : decode (yB m_X7_single) 157 = .ok (.aload_n 0, 1) := by decide +kernel
theorem d_X7_single_158 : decode (yB m_X7_single) 158 = .ok (.iload_n 2, 1) := by decide +kernel
theorem d_X7_single_159 : decode (yB m_X7_single) 159 = .ok (.invokevirtual 30, 3) := by decide +kernel
theorem d_X7_single_162 : decode (yB m_X7_single) 162 = .ok (.invokevirtual 105, 3) := by decide +kernel
theorem d_X7_single_165 : decode (yB m_X7_single) 165 = .ok (.ireturn, 1) := by decide +kernel
theorem d_X7_single_166 : decode (yB m_X7_single) 166 = .ok (.aload_n 0, 1) := by decide +kernel
theorem d_X7_single_167 : decode (yB m_X7_single) 167 = .ok (.getfield 26, 3) := by decide +kernel
theorem d_X7_single_170 : decode (yB m_X7_single) 170 = .ok (.ldc 107, 2) := by decide +kernel
theorem d_X7_single_172 : decode (yB m_X7_single) 172 = .ok (.invokevirtual 70, 3) := by decide +kernel
theorem d_X7_single_175 : decode (yB m_X7_single) 175 = .ok (.ifCond .eq 13, 3) := by decide +kernel
theorem d_X7_single_178 : decode (yB m_X7_single) 178 = .ok (.aload_n 0, 1) := by decide +kernel
theorem d_X7_single_179 : decode (yB m_X7_single) 179 = .ok (.aload_n 0, 1) := by decide +kernel
theorem d_X7_single_180 : decode (yB m_X7_single) 180 = .ok (.iload_n 2, 1) := by decide +kernel
theorem d_X7_single_181 : decode (yB m_X7_single) 181 = .ok (.invokevirtual 30, 3) := by decide +kernel
theorem d_X7_single_184 : decode (yB m_X7_single) 184 = .ok (.invokevirtual 109, 3) := by decide +kernel
theorem d_X7_single_187 : decode (yB m_X7_single) 187 = .ok (.ireturn, 1) := by decide +kernel
theorem d_X7_single_188 : decode (yB m_X7_single) 188 = .ok (.aload_n 0, 1) := by decide +kernel
theorem d_X7_single_189 : decode (yB m_X7_single) 189 = .ok (.getfield 26, 3) := by decide +kernel
theorem d_X7_single_192 : decode (yB m_X7_single) 192 = .ok (.ldc 111, 2) := by decide +kernel
theorem d_X7_single_194 : decode (yB m_X7_single) 194 = .ok (.invokevirtual 70, 3) := by decide +kernel
theorem d_X7_single_197 : decode (yB m_X7_single) 197 = .ok (.ifCond .eq 13, 3) := by decide +kernel
theorem d_X7_single_200 : decode (yB m_X7_single) 200 = .ok (.aload_n 0, 1) := by decide +kernel
theorem d_X7_single_201 : decode (yB m_X7_single) 201 = .ok (.aload_n 0, 1) := by decide +kernel
theorem d_X7_single_202 : decode (yB m_X7_single) 202 = .ok (.iload_n 2, 1) := by decide +kernel
theorem d_X7_single_203 : decode (yB m_X7_single) 203 = .ok (.invokevirtual 30, 3) := by decide +kernel
theorem d_X7_single_206 : decode (yB m_X7_single) 206 = .ok (.invokevirtual 113, 3) := by decide +kernel
theorem d_X7_single_209 : decode (yB m_X7_single) 209 = .ok (.ireturn, 1) := by decide +kernel
theorem d_X7_single_210 : decode (yB m_X7_single) 210 = .ok (.aload_n 0, 1) := by decide +kernel
theorem d_X7_single_211 : decode (yB m_X7_single) 211 = .ok (.getfield 26, 3) := by decide +kernel
theorem d_X7_single_214 : decode (yB m_X7_single) 214 = .ok (.ldc 115, 2) := by decide +kernel
theorem d_X7_single_216 : decode (yB m_X7_single) 216 = .ok (.invokevirtual 70, 3) := by decide +kernel
theorem d_X7_single_219 : decode (yB m_X7_single) 219 = .ok (.ifCond .eq 13, 3) := by decide +kernel
theorem d_X7_single_222 : decode (yB m_X7_single) 222 = .ok (.aload_n 0, 1) := by decide +kernel
theorem d_X7_single_223 : decode (yB m_X7_single) 223 = .ok (.aload_n 0, 1) := by decide +kernel
theorem d_X7_single_224 : decode (yB m_X7_single) 224 = .ok (.iload_n 2, 1) := by decide +kernel
theorem d_X7_single_225 : decode (yB m_X7_single) 225 = .ok (.invokevirtual 30, 3) := by decide +kernel
theorem d_X7_single_228 : decode (yB m_X7_single) 228 = .ok (.invokevirtual 117, 3) := by decide +kernel
theorem d_X7_single_231 : decode (yB m_X7_single) 231 = .ok (.ireturn, 1) := by decide +kernel
theorem d_X7_single_232 : decode (yB m_X7_single) 232 = .ok (.aload_n 0, 1) := by decide +kernel
theorem d_X7_single_233 : decode (yB m_X7_single) 233 = .ok (.getfield 26, 3) := by decide +kernel
theorem d_X7_single_236 : decode (yB m_X7_single) 236 = .ok (.iconst 1, 1) := by decide +kernel
theorem d_X7_single_237 : decode (yB m_X7_single) 237 = .ok (.iload_n 3, 1) := by decide +kernel
theorem d_X7_single_238 : decode (yB m_X7_single) 238 = .ok (.invokevirtual 59, 3) := by decide +kernel
theorem d_X7_single_241 : decode (yB m_X7_single) 241 = .ok (.ireturn, 1) := by decide +kernel
def fn_X7_single (f_X7_choice : Int32 → Int32 → zD → Option (Int32 × zD)) (f_X7_single : Int32 → Int32 → zD → Option (Int32 × zD)) (v1 : Int32) (v2 : Int32) (D : zD) : Option (Int32 × zD) := (fn_X8_next D).bind fun q1 => (fn_X8_takesMark (91 : Int32) q1.2).bind fun q2 => (if q2.1 = 0 then ((fn_X8_takesWord 9 q2.2).bind fun q4 => (if q4.1 = 0 then ((fn_X8_takesWord 10 q4.2).bind fun q6 => (if q6.1 = 0 then ((fn_X8_takesWord 11 q6.2).bind fun q8 => (if q8.1 = 0 then ((fn_X8_takesWord 12 q8.2).bind fun q10 => (if q10.1 = 0 then ((fn_X8_takesWord 13 q10.2).bind fun q12 => (if q12.1 = 0 then ((fn_X8_takesWord 14 q12.2).bind fun q14 => (if q14.1 = 0 then ((fn_X8_blame (1 : Int32) q1.1 q14.2).bind fun q16 => zcb q16.1 <| (some (q16.1, q16.2))) else ((fn_X7_at v2 q14.2).bind fun o18 => (fn_X7_fog o18 q14.2).bind fun q20 => zcb q20.1 <| (some (q20.1, q20.2))))) else ((fn_X7_at v2 q12.2).bind fun o22 => (fn_X7_front o22 q12.2).bind fun q24 => zcb q24.1 <| (some (q24.1, q24.2))))) else ((fn_X7_at v2 q10.2).bind fun o26 => (fn_X7_any o26 q10.2).bind fun q28 => zcb q28.1 <| (some (q28.1, q28.2))))) else ((fn_X7_at v2 q8.2).bind fun o30 => (fn_X7_corner o30 q8.2).bind fun q32 => zcb q32.1 <| (some (q32.1, q32.2))))) else ((fn_X7_at v2 q6.2).bind fun o34 => (fn_X7_side o34 q6.2).bind fun q36 => zcb q36.1 <| (some (q36.1, q36.2))))) else ((if v1 < (6 : Int32) then ((f_X7_single (v1 + (1 : Int32)) v2 q4.2).bind fun q39 => (if q39.1 = 0 then ((some ((0 : Int32), q39.2))) else ((fn_X7_at v2 q39.2).bind fun o41 => (fn_X7_complement o41 q39.2).bind fun q43 => (if q43.1 = 0 then ((some ((0 : Int32), q43.2))) else ((some ((1 : Int32), q43.2))))))) else ((fn_X8_blame (3 : Int32) q1.1 q4.2).bind fun q45 => zcb q45.1 <| (some (q45.1, q45.2))))))) else ((if v1 < (6 : Int32) then ((f_X7_choice (v1 + (1 : Int32)) v2 q2.2).bind fun q48 => (if q48.1 = 0 then ((some ((0 : Int32), q48.2))) else ((fn_X8_needsMark (93 : Int32) q48.2).bind fun q50 => (if q50.1 = 0 then ((some ((0 : Int32), q50.2))) else ((some ((1 : Int32), q50.2))))))) else ((fn_X8_blame (3 : Int32) q1.1 q2.2).bind fun q52 => zcb q52.1 <| (some (q52.1, q52.2))))))
theorem b_X7_single {X : zX} {Sh : zSh} {d : Nat} (hst : (zl X).stackTraces = false) (h0 : zSh0 Sh) (hd : 5 ≤ d) {v1 : Int32} {v2 : Int32} (f_X7_choice : Int32 → Int32 → zD → Option (Int32 × zD)) (hf_X7_choice : ∀ (v1 : Int32) (v2 : Int32) (D : zD), Sd X m_X7_choice d [.ref 22, .int v1, .int v2] (Sh, D) ((oI Sh) (f_X7_choice v1 v2 D))) (f_X7_single : Int32 → Int32 → zD → Option (Int32 × zD)) (hf_X7_single : ∀ (v1 : Int32) (v2 : Int32) (D : zD), Sd X m_X7_single d [.ref 22, .int v1, .int v2] (Sh, D) ((oI Sh) (f_X7_single v1 v2 D))) {D : zD} : Sd X m_X7_single (d + 1) [.ref 22, .int v1, .int v2] (Sh, D) ((oI Sh) (fn_X7_single f_X7_choice f_X7_single v1 v2 D)) := by
  refine z_body ck_X7_single rfl (Nat.le_of_ble_eq_true rfl) rfl hst ?_
  rw [fn_X7_single]
  show Rn X m_X7_single (d + 1) 0 [(0, .ref 22), (1, .int v1), (2, .int v2)] [] (Sh, D) _
  refine r_aload_n (pc := 0) 0 d_X7_single_0 rfl rfl ?_
  refine r_getR (pc := 1) g_X7_26 (K_22 h0) rfl (R_22_0 h0) d_X7_single_1 ?_
  refine q_cI (f := (oI Sh)) (av := [.ref 2]) (st := []) (z_runV ck_X8_next rfl ml_X7_55 ci_X8_next cv_X8_next (K_2 h0) (ci := 8) rfl rfl (Nat.le_of_ble_eq_true rfl) d_X7_single_4) (s_X8_next hst h0 (by omega)) kp_I (fun q1 _ => ?_)
  refine r_istore_n (pc := 7) (ls' := [(3, .int q1.1), (0, .ref 22), (1, .int v1), (2, .int v2)]) d_X7_single_7 rfl (Nat.le_of_ble_eq_true rfl) rfl ?_
  refine r_aload_n (pc := 8) 1 d_X7_single_8 rfl rfl ?_
  refine r_getR (pc := 9) g_X7_26 (K_22 h0) rfl (R_22_0 h0) d_X7_single_9 ?_
  refine r_bipush (pc := 12) (91 : Int32) d_X7_single_12 rfl ?_
  refine q_cI (f := (oI Sh)) (av := [.ref 2, .int (91 : Int32)]) (st := []) (z_runV ck_X8_takesMark rfl ml_X7_86 ci_X8_takesMark cv_X8_takesMark (K_2 h0) (ci := 8) rfl rfl (Nat.le_of_ble_eq_true rfl) d_X7_single_14) (s_X8_takesMark hst h0 (by omega)) kp_I (fun q2 _ => ?_)
  refine r_if_eq (f := (oI Sh)) (pc := 17) 65 d_X7_single_17 (by decide) (fun c3 => ?_) (fun c3 => ?_)
  · refine r_aload_n (pc := 65) 1 d_X7_single_65 rfl rfl ?_
    refine r_getR (pc := 66) g_X7_26 (K_22 h0) rfl (R_22_0 h0) d_X7_single_66 ?_
    refine r_ldcS (pc := 69) (q := (zR7, 93, "not", 9)) (str_X7_93) rfl rfl d_X7_single_69 ?_
    refine q_cI (f := (oI Sh)) (av := [.ref 2, .ref (1000000 + 9)]) (st := []) (z_runV ck_X8_takesWord rfl ml_X7_70 ci_X8_takesWord cv_X8_takesWord (K_2 h0) (ci := 8) rfl rfl (Nat.le_of_ble_eq_true rfl) d_X7_single_71) (s_X8_takesWord hst h0 (by omega) (by decide)) kp_I (fun q4 _ => ?_)
    refine r_if_eq (f := (oI Sh)) (pc := 74) 122 d_X7_single_74 (by decide) (fun c5 => ?_) (fun c5 => ?_)
    · refine r_aload_n (pc := 122) 1 d_X7_single_122 rfl rfl ?_
      refine r_getR (pc := 123) g_X7_26 (K_22 h0) rfl (R_22_0 h0) d_X7_single_123 ?_
      refine r_ldcS (pc := 126) (q := (zR7, 99, "side", 10)) (str_X7_99) rfl rfl d_X7_single_126 ?_
      refine q_cI (f := (oI Sh)) (av := [.ref 2, .ref (1000000 + 10)]) (st := []) (z_runV ck_X8_takesWord rfl ml_X7_70 ci_X8_takesWord cv_X8_takesWord (K_2 h0) (ci := 8) rfl rfl (Nat.le_of_ble_eq_true rfl) d_X7_single_128) (s_X8_takesWord hst h0 (by omega) (by decide)) kp_I (fun q6 _ => ?_)
      refine r_if_eq (f := (oI Sh)) (pc := 131) 144 d_X7_single_131 (by decide) (fun c7 => ?_) (fun c7 => ?_)
      · refine r_aload_n (pc := 144) 1 d_X7_single_144 rfl rfl ?_
        refine r_getR (pc := 145) g_X7_26 (K_22 h0) rfl (R_22_0 h0) d_X7_single_145 ?_
        refine r_ldcS (pc := 148) (q := (zR7, 103, "corner", 11)) (str_X7_103) rfl rfl d_X7_single_148 ?_
        refine q_cI (f := (oI Sh)) (av := [.ref 2, .ref (1000000 + 11)]) (st := []) (z_runV ck_X8_takesWord rfl ml_X7_70 ci_X8_takesWord cv_X8_takesWord (K_2 h0) (ci := 8) rfl rfl (Nat.le_of_ble_eq_true rfl) d_X7_single_150) (s_X8_takesWord hst h0 (by omega) (by decide)) kp_I (fun q8 _ => ?_)
        refine r_if_eq (f := (oI Sh)) (pc := 153) 166 d_X7_single_153 (by decide) (fun c9 => ?_) (fun c9 => ?_)
        · refine r_aload_n (pc := 166) 1 d_X7_single_166 rfl rfl ?_
          refine r_getR (pc := 167) g_X7_26 (K_22 h0) rfl (R_22_0 h0) d_X7_single_167 ?_
          refine r_ldcS (pc := 170) (q := (zR7, 107, "any", 12)) (str_X7_107) rfl rfl d_X7_single_170 ?_
          refine q_cI (f := (oI Sh)) (av := [.ref 2, .ref (1000000 + 12)]) (st := []) (z_runV ck_X8_takesWord rfl ml_X7_70 ci_X8_takesWord cv_X8_takesWord (K_2 h0) (ci := 8) rfl rfl (Nat.le_of_ble_eq_true rfl) d_X7_single_172) (s_X8_takesWord hst h0 (by omega) (by decide)) kp_I (fun q10 _ => ?_)
          refine r_if_eq (f := (oI Sh)) (pc := 175) 188 d_X7_single_175 (by decide) (fun c11 => ?_) (fun c11 => ?_)
          · refine r_aload_n (pc := 188) 1 d_X7_single_188 rfl rfl ?_
            refine r_getR (pc := 189) g_X7_26 (K_22 h0) rfl (R_22_0 h0) d_X7_single_189 ?_
            refine r_ldcS (pc := 192) (q := (zR7, 111, "front", 13)) (str_X7_111) rfl rfl d_X7_single_192 ?_
            refine q_cI (f := (oI Sh)) (av := [.ref 2, .ref (1000000 + 13)]) (st := []) (z_runV ck_X8_takesWord rfl ml_X7_70 ci_X8_takesWord cv_X8_takesWord (K_2 h0) (ci := 8) rfl rfl (Nat.le_of_ble_eq_true rfl) d_X7_single_194) (s_X8_takesWord hst h0 (by omega) (by decide)) kp_I (fun q12 _ => ?_)
            refine r_if_eq (f := (oI Sh)) (pc := 197) 210 d_X7_single_197 (by decide) (fun c13 => ?_) (fun c13 => ?_)
            · refine r_aload_n (pc := 210) 1 d_X7_single_210 rfl rfl ?_
              refine r_getR (pc := 211) g_X7_26 (K_22 h0) rfl (R_22_0 h0) d_X7_single_211 ?_
              refine r_ldcS (pc := 214) (q := (zR7, 115, "fog", 14)) (str_X7_115) rfl rfl d_X7_single_214 ?_
              refine q_cI (f := (oI Sh)) (av := [.ref 2, .ref (1000000 + 14)]) (st := []) (z_runV ck_X8_takesWord rfl ml_X7_70 ci_X8_takesWord cv_X8_takesWord (K_2 h0) (ci := 8) rfl rfl (Nat.le_of_ble_eq_true rfl) d_X7_single_216) (s_X8_takesWord hst h0 (by omega) (by decide)) kp_I (fun q14 _ => ?_)
              refine r_if_eq (f := (oI Sh)) (pc := 219) 232 d_X7_single_219 (by decide) (fun c15 => ?_) (fun c15 => ?_)
              · refine r_aload_n (pc := 232) 1 d_X7_single_232 rfl rfl ?_
                refine r_getR (pc := 233) g_X7_26 (K_22 h0) rfl (R_22_0 h0) d_X7_single_233 ?_
                refine r_iconst (pc := 236) (1 : Int32) d_X7_single_236 rfl ?_
                refine r_iload_n (pc := 237) 0 d_X7_single_237 rfl rfl ?_
                refine q_cI (f := (oI Sh)) (av := [.ref 2, .int (1 : Int32), .int q1.1]) (st := []) (z_runV ck_X8_blame rfl ml_X7_59 ci_X8_blame cv_X8_blame (K_2 h0) (ci := 8) rfl rfl (Nat.le_of_ble_eq_true rfl) d_X7_single_238) (s_X8_blame hst h0 (by omega)) kp_I (fun q16 _ => ?_)
                refine r_cb (f := (oI Sh)) rfl (fun hb17 => ?_)
                exact r_zret (pc := 241) rfl hb17 d_X7_single_241
              · refine r_aload_n (pc := 222) 1 d_X7_single_222 rfl rfl ?_
                refine r_aload_n (pc := 223) 1 d_X7_single_223 rfl rfl ?_
                refine r_iload_n (pc := 224) 3 d_X7_single_224 rfl rfl ?_
                refine q_cA (f := (oI Sh)) (av := [.ref 22, .int v2]) (st := [.ref 22]) (z_runV ck_X7_at rfl ml_X7_30 ci_X7_at cv_X7_at (K_22 h0) (ci := 7) rfl rfl (Nat.le_of_ble_eq_true rfl) d_X7_single_225) (s_X7_at hst h0 (by omega)) kp_I (fun o18 ha19 => ?_)
                refine q_cI (f := (oI Sh)) (av := [.ref 22, .ref o18]) (st := []) (z_runV ck_X7_fog rfl ml_X7_117 ci_X7_fog cv_X7_fog (K_22 h0) (ci := 7) rfl rfl (Nat.le_of_ble_eq_true rfl) d_X7_single_228) (s_X7_fog hst h0 (by omega) (al_X7_at ha19)) kp_I (fun q20 _ => ?_)
                refine r_cb (f := (oI Sh)) rfl (fun hb21 => ?_)
                exact r_zret (pc := 231) rfl hb21 d_X7_single_231
            · refine r_aload_n (pc := 200) 1 d_X7_single_200 rfl rfl ?_
              refine r_aload_n (pc := 201) 1 d_X7_single_201 rfl rfl ?_
              refine r_iload_n (pc := 202) 3 d_X7_single_202 rfl rfl ?_
              refine q_cA (f := (oI Sh)) (av := [.ref 22, .int v2]) (st := [.ref 22]) (z_runV ck_X7_at rfl ml_X7_30 ci_X7_at cv_X7_at (K_22 h0) (ci := 7) rfl rfl (Nat.le_of_ble_eq_true rfl) d_X7_single_203) (s_X7_at hst h0 (by omega)) kp_I (fun o22 ha23 => ?_)
              refine q_cI (f := (oI Sh)) (av := [.ref 22, .ref o22]) (st := []) (z_runV ck_X7_front rfl ml_X7_113 ci_X7_front cv_X7_front (K_22 h0) (ci := 7) rfl rfl (Nat.le_of_ble_eq_true rfl) d_X7_single_206) (s_X7_front hst h0 (by omega) (al_X7_at ha23)) kp_I (fun q24 _ => ?_)
              refine r_cb (f := (oI Sh)) rfl (fun hb25 => ?_)
              exact r_zret (pc := 209) rfl hb25 d_X7_single_209
          · refine r_aload_n (pc := 178) 1 d_X7_single_178 rfl rfl ?_
            refine r_aload_n (pc := 179) 1 d_X7_single_179 rfl rfl ?_
            refine r_iload_n (pc := 180) 3 d_X7_single_180 rfl rfl ?_
            refine q_cA (f := (oI Sh)) (av := [.ref 22, .int v2]) (st := [.ref 22]) (z_runV ck_X7_at rfl ml_X7_30 ci_X7_at cv_X7_at (K_22 h0) (ci := 7) rfl rfl (Nat.le_of_ble_eq_true rfl) d_X7_single_181) (s_X7_at hst h0 (by omega)) kp_I (fun o26 ha27 => ?_)
            refine q_cI (f := (oI Sh)) (av := [.ref 22, .ref o26]) (st := []) (z_runV ck_X7_any rfl ml_X7_109 ci_X7_any cv_X7_any (K_22 h0) (ci := 7) rfl rfl (Nat.le_of_ble_eq_true rfl) d_X7_single_184) (s_X7_any hst h0 (by omega) (al_X7_at ha27)) kp_I (fun q28 _ => ?_)
            refine r_cb (f := (oI Sh)) rfl (fun hb29 => ?_)
            exact r_zret (pc := 187) rfl hb29 d_X7_single_187
        · refine r_aload_n (pc := 156) 1 d_X7_single_156 rfl rfl ?_
          refine r_aload_n (pc := 157) 1 d_X7_single_157 rfl rfl ?_
          refine r_iload_n (pc := 158) 3 d_X7_single_158 rfl rfl ?_
          refine q_cA (f := (oI Sh)) (av := [.ref 22, .int v2]) (st := [.ref 22]) (z_runV ck_X7_at rfl ml_X7_30 ci_X7_at cv_X7_at (K_22 h0) (ci := 7) rfl rfl (Nat.le_of_ble_eq_true rfl) d_X7_single_159) (s_X7_at hst h0 (by omega)) kp_I (fun o30 ha31 => ?_)
          refine q_cI (f := (oI Sh)) (av := [.ref 22, .ref o30]) (st := []) (z_runV ck_X7_corner rfl ml_X7_105 ci_X7_corner cv_X7_corner (K_22 h0) (ci := 7) rfl rfl (Nat.le_of_ble_eq_true rfl) d_X7_single_162) (s_X7_corner hst h0 (by omega) (al_X7_at ha31)) kp_I (fun q32 _ => ?_)
          refine r_cb (f := (oI Sh)) rfl (fun hb33 => ?_)
          exact r_zret (pc := 165) rfl hb33 d_X7_single_165
      · refine r_aload_n (pc := 134) 1 d_X7_single_134 rfl rfl ?_
        refine r_aload_n (pc := 135) 1 d_X7_single_135 rfl rfl ?_
        refine r_iload_n (pc := 136) 3 d_X7_single_136 rfl rfl ?_
        refine q_cA (f := (oI Sh)) (av := [.ref 22, .int v2]) (st := [.ref 22]) (z_runV ck_X7_at rfl ml_X7_30 ci_X7_at cv_X7_at (K_22 h0) (ci := 7) rfl rfl (Nat.le_of_ble_eq_true rfl) d_X7_single_137) (s_X7_at hst h0 (by omega)) kp_I (fun o34 ha35 => ?_)
        refine q_cI (f := (oI Sh)) (av := [.ref 22, .ref o34]) (st := []) (z_runV ck_X7_side rfl ml_X7_101 ci_X7_side cv_X7_side (K_22 h0) (ci := 7) rfl rfl (Nat.le_of_ble_eq_true rfl) d_X7_single_140) (s_X7_side hst h0 (by omega) (al_X7_at ha35)) kp_I (fun q36 _ => ?_)
        refine r_cb (f := (oI Sh)) rfl (fun hb37 => ?_)
        exact r_zret (pc := 143) rfl hb37 d_X7_single_143
    · refine r_iload_n (pc := 77) 2 d_X7_single_77 rfl rfl ?_
      refine r_bipush (pc := 78) (6 : Int32) d_X7_single_78 rfl ?_
      refine r_icmp_lt (f := (oI Sh)) (pc := 80) 93 d_X7_single_80 (by decide) (fun c38 => ?_) (fun c38 => ?_)
      · refine r_aload_n (pc := 93) 1 d_X7_single_93 rfl rfl ?_
        refine r_iload_n (pc := 94) 2 d_X7_single_94 rfl rfl ?_
        refine r_iconst (pc := 95) (1 : Int32) d_X7_single_95 rfl ?_
        refine r_iadd (pc := 96) d_X7_single_96 ?_
        refine r_iload_n (pc := 97) 3 d_X7_single_97 rfl rfl ?_
        refine q_cI (f := (oI Sh)) (av := [.ref 22, .int (v1 + (1 : Int32)), .int v2]) (st := []) (z_runV ck_X7_single rfl ml_X7_78 ci_X7_single cv_X7_single (K_22 h0) (ci := 7) rfl rfl (Nat.le_of_ble_eq_true rfl) d_X7_single_98) (hf_X7_single (v1 + (1 : Int32)) v2 q4.2) kp_I (fun q39 _ => ?_)
        refine r_if_eq (f := (oI Sh)) (pc := 101) 120 d_X7_single_101 (by decide) (fun c40 => ?_) (fun c40 => ?_)
        · refine r_iconst (pc := 120) (0 : Int32) d_X7_single_120 rfl ?_
          exact r_zret (pc := 121) rfl (by decide) d_X7_single_121
        · refine r_aload_n (pc := 104) 1 d_X7_single_104 rfl rfl ?_
          refine r_aload_n (pc := 105) 1 d_X7_single_105 rfl rfl ?_
          refine r_iload_n (pc := 106) 3 d_X7_single_106 rfl rfl ?_
          refine q_cA (f := (oI Sh)) (av := [.ref 22, .int v2]) (st := [.ref 22]) (z_runV ck_X7_at rfl ml_X7_30 ci_X7_at cv_X7_at (K_22 h0) (ci := 7) rfl rfl (Nat.le_of_ble_eq_true rfl) d_X7_single_107) (s_X7_at hst h0 (by omega)) kp_I (fun o41 ha42 => ?_)
          refine q_cI (f := (oI Sh)) (av := [.ref 22, .ref o41]) (st := []) (z_runV ck_X7_complement rfl ml_X7_95 ci_X7_complement cv_X7_complement (K_22 h0) (ci := 7) rfl rfl (Nat.le_of_ble_eq_true rfl) d_X7_single_110) (s_X7_complement hst h0 (by omega) (al_X7_at ha42)) kp_I (fun q43 _ => ?_)
          refine r_if_eq (f := (oI Sh)) (pc := 113) 120 d_X7_single_113 (by decide) (fun c44 => ?_) (fun c44 => ?_)
          · refine r_iconst (pc := 120) (0 : Int32) d_X7_single_120 rfl ?_
            exact r_zret (pc := 121) rfl (by decide) d_X7_single_121
          · refine r_iconst (pc := 116) (1 : Int32) d_X7_single_116 rfl ?_
            refine r_goto (pc := 117) 121 d_X7_single_117 (by decide) ?_
            exact r_zret (pc := 121) rfl (by decide) d_X7_single_121
      · refine r_aload_n (pc := 83) 1 d_X7_single_83 rfl rfl ?_
        refine r_getR (pc := 84) g_X7_26 (K_22 h0) rfl (R_22_0 h0) d_X7_single_84 ?_
        refine r_iconst (pc := 87) (3 : Int32) d_X7_single_87 rfl ?_
        refine r_iload_n (pc := 88) 0 d_X7_single_88 rfl rfl ?_
        refine q_cI (f := (oI Sh)) (av := [.ref 2, .int (3 : Int32), .int q1.1]) (st := []) (z_runV ck_X8_blame rfl ml_X7_59 ci_X8_blame cv_X8_blame (K_2 h0) (ci := 8) rfl rfl (Nat.le_of_ble_eq_true rfl) d_X7_single_89) (s_X8_blame hst h0 (by omega)) kp_I (fun q45 _ => ?_)
        refine r_cb (f := (oI Sh)) rfl (fun hb46 => ?_)
        exact r_zret (pc := 92) rfl hb46 d_X7_single_92
  · refine r_iload_n (pc := 20) 2 d_X7_single_20 rfl rfl ?_
    refine r_bipush (pc := 21) (6 : Int32) d_X7_single_21 rfl ?_
    refine r_icmp_lt (f := (oI Sh)) (pc := 23) 36 d_X7_single_23 (by decide) (fun c47 => ?_) (fun c47 => ?_)
    · refine r_aload_n (pc := 36) 1 d_X7_single_36 rfl rfl ?_
      refine r_iload_n (pc := 37) 2 d_X7_single_37 rfl rfl ?_
      refine r_iconst (pc := 38) (1 : Int32) d_X7_single_38 rfl ?_
      refine r_iadd (pc := 39) d_X7_single_39 ?_
      refine r_iload_n (pc := 40) 3 d_X7_single_40 rfl rfl ?_
      refine q_cI (f := (oI Sh)) (av := [.ref 22, .int (v1 + (1 : Int32)), .int v2]) (st := []) (z_runV ck_X7_choice rfl ml_X7_45 ci_X7_choice cv_X7_choice (K_22 h0) (ci := 7) rfl rfl (Nat.le_of_ble_eq_true rfl) d_X7_single_41) (hf_X7_choice (v1 + (1 : Int32)) v2 q2.2) kp_I (fun q48 _ => ?_)
      refine r_if_eq (f := (oI Sh)) (pc := 44) 63 d_X7_single_44 (by decide) (fun c49 => ?_) (fun c49 => ?_)
      · refine r_iconst (pc := 63) (0 : Int32) d_X7_single_63 rfl ?_
        exact r_zret (pc := 64) rfl (by decide) d_X7_single_64
      · refine r_aload_n (pc := 47) 1 d_X7_single_47 rfl rfl ?_
        refine r_getR (pc := 48) g_X7_26 (K_22 h0) rfl (R_22_0 h0) d_X7_single_48 ?_
        refine r_bipush (pc := 51) (93 : Int32) d_X7_single_51 rfl ?_
        refine q_cI (f := (oI Sh)) (av := [.ref 2, .int (93 : Int32)]) (st := []) (z_runV ck_X8_needsMark rfl ml_X7_90 ci_X8_needsMark cv_X8_needsMark (K_2 h0) (ci := 8) rfl rfl (Nat.le_of_ble_eq_true rfl) d_X7_single_53) (s_X8_needsMark hst h0 (by omega)) kp_I (fun q50 _ => ?_)
        refine r_if_eq (f := (oI Sh)) (pc := 56) 63 d_X7_single_56 (by decide) (fun c51 => ?_) (fun c51 => ?_)
        · refine r_iconst (pc := 63) (0 : Int32) d_X7_single_63 rfl ?_
          exact r_zret (pc := 64) rfl (by decide) d_X7_single_64
        · refine r_iconst (pc := 59) (1 : Int32) d_X7_single_59 rfl ?_
          refine r_goto (pc := 60) 64 d_X7_single_60 (by decide) ?_
          exact r_zret (pc := 64) rfl (by decide) d_X7_single_64
    · refine r_aload_n (pc := 26) 1 d_X7_single_26 rfl rfl ?_
      refine r_getR (pc := 27) g_X7_26 (K_22 h0) rfl (R_22_0 h0) d_X7_single_27 ?_
      refine r_iconst (pc := 30) (3 : Int32) d_X7_single_30 rfl ?_
      refine r_iload_n (pc := 31) 0 d_X7_single_31 rfl rfl ?_
      refine q_cI (f := (oI Sh)) (av := [.ref 2, .int (3 : Int32), .int q1.1]) (st := []) (z_runV ck_X8_blame rfl ml_X7_59 ci_X8_blame cv_X8_blame (K_2 h0) (ci := 8) rfl rfl (Nat.le_of_ble_eq_true rfl) d_X7_single_32) (s_X8_blame hst h0 (by omega)) kp_I (fun q52 _ => ?_)
      refine r_cb (f := (oI Sh)) rfl (fun hb53 => ?_)
      exact r_zret (pc := 35) rfl hb53 d_X7_single_35
/-! CoveredSigns$RuleText.both -/
theorem d_X7_both_0 : decode (yB m_X7_both) 0 = .ok (.aload_n 0, 1) := by decide +kernel
theorem d_X7_both_1 : decode (yB m_X7_both) 1 = .ok (.iload_n 1, 1) := by decide +kernel
theorem d_X7_both_2 : decode (yB m_X7_both) 2 = .ok (.iload_n 2, 1) := by decide +kernel
theorem d_X7_both_3 : decode (yB m_X7_both) 3 = .ok (.invokevirtual 78, 3) := by decide +kernel
theorem d_X7_both_6 : decode (yB m_X7_both) 6 = .ok (.ifCond .ne 5, 3) := by decide +kernel
theorem d_X7_both_9 : decode (yB m_X7_both) 9 = .ok (.iconst 0, 1) := by decide +kernel
theorem d_X7_both_10 : decode (yB m_X7_both) 10 = .ok (.ireturn, 1) := by decide +kernel
theorem d_X7_both_11 : decode (yB m_X7_both) 11 = .ok (.iconst 0, 1) := by decide +kernel
theorem d_X7_both_12 : decode (yB m_X7_both) 12 = .ok (.istore_n 3, 1) := by decide +kernel
theorem d_X7_both_13 : decode (yB m_X7_both) 13 = .ok (.iload_n 3, 1) := by decide +kernel
theorem d_X7_both_14 : decode (yB m_X7_both) 14 = .ok (.sipush 500, 3) := by decide +kernel
theorem d_X7_both_17 : decode (yB m_X7_both) 17 = .ok (.if_icmp .ge 52, 3) := by decide +kernel
theorem d_X7_both_20 : decode (yB m_X7_both) 20 = .ok (.aload_n 0, 1) := by decide +kernel
theorem d_X7_both_21 : decode (yB m_X7_both) 21 = .ok (.getfield 26, 3) := by decide +kernel
theorem d_X7_both_24 : decode (yB m_X7_both) 24 = .ok (.ldc 81, 2) := by decide +kernel
theorem d_X7_both_26 : decode (yB m_X7_both) 26 = .ok (.invokevirtual 70, 3) := by decide +kernel
theorem d_X7_both_29 : decode (yB m_X7_both) 29 = .ok (.ifCond .ne 5, 3) := by decide +kernel
theorem d_X7_both_32 : decode (yB m_X7_both) 32 = .ok (.iconst 1, 1) := by decide +kernel
theorem d_X7_both_33 : decode (yB m_X7_both) 33 = .ok (.ireturn, 1) := by decide +kernel
theorem d_X7_both_34 : decode (yB m_X7_both) 34 = .ok (.aload_n 0, 1) := by decide +kernel
theorem d_X7_both_35 : decode (yB m_X7_both) 35 = .ok (.iload_n 1, 1) := by decide +kernel
theorem d_X7_both_36 : decode (yB m_X7_both) 36 = .ok (.iload_n 2, 1) := by decide +kernel
theorem d_X7_both_37 : decode (yB m_X7_both) 37 = .ok (.iconst 1, 1) := by decide +kernel
theorem d_X7_both_38 : decode (yB m_X7_both) 38 = .ok (.iadd, 1) := by decide +kernel
theorem d_X7_both_39 : decode (yB m_X7_both) 39 = .ok (.invokevirtual 78, 3) := by decide +kernel
theorem d_X7_both_42 : decode (yB m_X7_both) 42 = .ok (.ifCond .ne 5, 3) := by decide +kernel
theorem d_X7_both_45 : decode (yB m_X7_both) 45 = .ok (.iconst 0, 1) := by decide +kernel
theorem d_X7_both_46 : decode (yB m_X7_both) 46 = .ok (.ireturn, 1) := by decide +kernel
theorem d_X7_both_47 : decode (yB m_X7_both) 47 = .ok (.aload_n 0, 1) := by decide +kernel
theorem d_X7_both_48 : decode (yB m_X7_both) 48 = .ok (.aload_n 0, 1) := by decide +kernel
theorem d_X7_both_49 : decode (yB m_X7_both) 49 = .ok (.iload_n 2, 1) := by decide +kernel
theorem d_X7_both_50 : decode (yB m_X7_both) 50 = .ok (.invokevirtual 30, 3) := by decide +kernel
theorem d_X7_both_53 : decode (yB m_X7_both) 53 = .ok (.aload_n 0, 1) := by decide +kernel
theorem d_X7_both_54 : decode (yB m_X7_both) 54 = .ok (.iload_n 2, 1) := by decide +kernel
theorem d_X7_both_55 : decode (yB m_X7_both) 55 = .ok (.iconst 1, 1) := by decide +kernel
theorem d_X7_both_56 : decode (yB m_X7_both) 56 = .ok (.iadd, 1) := by decide +kernel
theorem d_X7_both_57 : decode (yB m_X7_both) 57 = .ok (.invokevirtual 30, 3) := by decide +kernel
theorem d_X7_both_60 : decode (yB m_X7_both) 60 = .ok (.invokevirtual 83, 3) := by decide +kernel
theorem d_X7_both_63 : decode (yB m_X7_both) 63 = .ok (.iinc 3 1, 3) := by decide +kernel
theorem d_X7_both_66 : decode (yB m_X7_both) 66 = .ok (.goto (-53), 3) := by decide +kernel
theorem d_X7_both_69 : decode (yB m_X7_both) 69 = .ok (.iconst 1, 1) := by decide +kernel
theorem d_X7_both_70 : decode (yB m_X7_both) 70 = .ok (.ireturn, 1) := by decide +kernel
def fn_X7_both_13 (f_X7_single : Int32 → Int32 → zD → Option (Int32 × zD)) (v1 : Int32) (v2 : Int32) : Nat → Int32 → zD → Option (Int32 × zD)
  | 0, _, _ => none
  | n + 1, v3, D => (if (500 : Int32) ≤ v3 then ((some ((1 : Int32), D))) else ((fn_X8_takesWord 15 D).bind fun q4 => (if q4.1 = 0 then ((some ((1 : Int32), q4.2))) else ((f_X7_single v1 (v2 + (1 : Int32)) q4.2).bind fun q6 => (if q6.1 = 0 then ((some ((0 : Int32), q6.2))) else ((fn_X7_at v2 q6.2).bind fun o8 => (fn_X7_at (v2 + (1 : Int32)) q6.2).bind fun o10 => (fn_X7_overlay o8 o10 q6.2).bind fun D12 => ((fn_X7_both_13 f_X7_single v1 v2 n) (v3 + (1 : Int32)) D12)))))))
def fn_X7_both (f_X7_single : Int32 → Int32 → zD → Option (Int32 × zD)) (v1 : Int32) (v2 : Int32) (D : zD) : Option (Int32 × zD) := (f_X7_single v1 v2 D).bind fun q1 => (if q1.1 = 0 then ((some ((0 : Int32), q1.2))) else ((fn_X7_both_13 f_X7_single v1 v2 zFU (0 : Int32) q1.2)))
theorem s_X7_both_13 {X : zX} {Sh : zSh} {d : Nat} (hst : (zl X).stackTraces = false) (h0 : zSh0 Sh) (hd : 6 ≤ d) {v1 : Int32} {v2 : Int32} (f_X7_single : Int32 → Int32 → zD → Option (Int32 × zD)) (hf_X7_single : ∀ (v1 : Int32) (v2 : Int32) (D : zD), Sd X m_X7_single d [.ref 22, .int v1, .int v2] (Sh, D) ((oI Sh) (f_X7_single v1 v2 D))) : ∀ (n : Nat) (v3 : Int32) (D : zD) , Rn X m_X7_both (d + 1) 13 [(0, .ref 22), (1, .int v1), (2, .int v2), (3, .int v3)] [] (Sh, D) ((oI Sh) (fn_X7_both_13 f_X7_single v1 v2 n v3 D)) := by
  intro n
  induction n with
  | zero => intro v3 D; exact Rn_none rfl
  | succ n hk13 =>
    intro v3 D
    rw [fn_X7_both_13]
    refine r_iload_n (pc := 13) 3 d_X7_both_13 rfl rfl ?_
    refine r_sipush (pc := 14) (500 : Int32) d_X7_both_14 rfl ?_
    refine r_icmp_ge (f := (oI Sh)) (pc := 17) 69 d_X7_both_17 (by decide) (fun c3 => ?_) (fun c3 => ?_)
    · refine r_iconst (pc := 69) (1 : Int32) d_X7_both_69 rfl ?_
      exact r_zret (pc := 70) rfl (by decide) d_X7_both_70
    · refine r_aload_n (pc := 20) 0 d_X7_both_20 rfl rfl ?_
      refine r_getR (pc := 21) g_X7_26 (K_22 h0) rfl (R_22_0 h0) d_X7_both_21 ?_
      refine r_ldcS (pc := 24) (q := (zR7, 81, "and", 15)) (str_X7_81) rfl rfl d_X7_both_24 ?_
      refine q_cI (f := (oI Sh)) (av := [.ref 2, .ref (1000000 + 15)]) (st := []) (z_runV ck_X8_takesWord rfl ml_X7_70 ci_X8_takesWord cv_X8_takesWord (K_2 h0) (ci := 8) rfl rfl (Nat.le_of_ble_eq_true rfl) d_X7_both_26) (s_X8_takesWord hst h0 (by omega) (by decide)) kp_I (fun q4 _ => ?_)
      refine r_if_ne (f := (oI Sh)) (pc := 29) 34 d_X7_both_29 (by decide) (fun c5 => ?_) (fun c5 => ?_)
      · refine r_aload_n (pc := 34) 0 d_X7_both_34 rfl rfl ?_
        refine r_iload_n (pc := 35) 1 d_X7_both_35 rfl rfl ?_
        refine r_iload_n (pc := 36) 2 d_X7_both_36 rfl rfl ?_
        refine r_iconst (pc := 37) (1 : Int32) d_X7_both_37 rfl ?_
        refine r_iadd (pc := 38) d_X7_both_38 ?_
        refine q_cI (f := (oI Sh)) (av := [.ref 22, .int v1, .int (v2 + (1 : Int32))]) (st := []) (z_runV ck_X7_single rfl ml_X7_78 ci_X7_single cv_X7_single (K_22 h0) (ci := 7) rfl rfl (Nat.le_of_ble_eq_true rfl) d_X7_both_39) (hf_X7_single v1 (v2 + (1 : Int32)) q4.2) kp_I (fun q6 _ => ?_)
        refine r_if_ne (f := (oI Sh)) (pc := 42) 47 d_X7_both_42 (by decide) (fun c7 => ?_) (fun c7 => ?_)
        · refine r_aload_n (pc := 47) 0 d_X7_both_47 rfl rfl ?_
          refine r_aload_n (pc := 48) 0 d_X7_both_48 rfl rfl ?_
          refine r_iload_n (pc := 49) 2 d_X7_both_49 rfl rfl ?_
          refine q_cA (f := (oI Sh)) (av := [.ref 22, .int v2]) (st := [.ref 22]) (z_runV ck_X7_at rfl ml_X7_30 ci_X7_at cv_X7_at (K_22 h0) (ci := 7) rfl rfl (Nat.le_of_ble_eq_true rfl) d_X7_both_50) (s_X7_at hst h0 (by omega)) kp_I (fun o8 ha9 => ?_)
          refine r_aload_n (pc := 53) 0 d_X7_both_53 rfl rfl ?_
          refine r_iload_n (pc := 54) 2 d_X7_both_54 rfl rfl ?_
          refine r_iconst (pc := 55) (1 : Int32) d_X7_both_55 rfl ?_
          refine r_iadd (pc := 56) d_X7_both_56 ?_
          refine q_cA (f := (oI Sh)) (av := [.ref 22, .int (v2 + (1 : Int32))]) (st := [.ref o8, .ref 22]) (z_runV ck_X7_at rfl ml_X7_30 ci_X7_at cv_X7_at (K_22 h0) (ci := 7) rfl rfl (Nat.le_of_ble_eq_true rfl) d_X7_both_57) (s_X7_at hst h0 (by omega)) kp_I (fun o10 ha11 => ?_)
          refine q_cV (f := (oI Sh)) (av := [.ref 22, .ref o8, .ref o10]) (st := []) (z_runV ck_X7_overlay rfl ml_X7_83 ci_X7_overlay cv_X7_overlay (K_22 h0) (ci := 7) rfl rfl (Nat.le_of_ble_eq_true rfl) d_X7_both_60) (s_X7_overlay hst h0 (by omega) (al_X7_at ha9) (al_X7_at ha11)) kp_I (fun D12 _ => ?_)
          refine r_iinc (pc := 63) ((v3 + (1 : Int32))) 3 (ls' := [(3, .int (v3 + (1 : Int32))), (0, .ref 22), (1, .int v1), (2, .int v2)]) d_X7_both_63 rfl rfl (Nat.le_of_ble_eq_true rfl) rfl ?_
          refine r_goto (pc := 66) 13 d_X7_both_66 (by decide) ?_
          refine r_pick [1, 2, 3, 0] (ls' := [(0, .ref 22), (1, .int v1), (2, .int v2), (3, .int (v3 + (1 : Int32)))]) rfl ?_
          exact hk13 (v3 + (1 : Int32)) D12 
        · refine r_iconst (pc := 45) (0 : Int32) d_X7_both_45 rfl ?_
          exact r_zret (pc := 46) rfl (by decide) d_X7_both_46
      · refine r_iconst (pc := 32) (1 : Int32) d_X7_both_32 rfl ?_
        exact r_zret (pc := 33) rfl (by decide) d_X7_both_33
theorem b_X7_both {X : zX} {Sh : zSh} {d : Nat} (hst : (zl X).stackTraces = false) (h0 : zSh0 Sh) (hd : 6 ≤ d) {v1 : Int32} {v2 : Int32} (f_X7_single : Int32 → Int32 → zD → Option (Int32 × zD)) (hf_X7_single : ∀ (v1 : Int32) (v2 : Int32) (D : zD), Sd X m_X7_single d [.ref 22, .int v1, .int v2] (Sh, D) ((oI Sh) (f_X7_single v1 v2 D))) {D : zD} : Sd X m_X7_both (d + 1) [.ref 22, .int v1, .int v2] (Sh, D) ((oI Sh) (fn_X7_both f_X7_single v1 v2 D)) := by
  refine z_body ck_X7_both rfl (Nat.le_of_ble_eq_true rfl) rfl hst ?_
  rw [fn_X7_both]
  show Rn X m_X7_both (d + 1) 0 [(0, .ref 22), (1, .int v1), (2, .int v2)] [] (Sh, D) _
  refine r_aload_n (pc := 0) 0 d_X7_both_0 rfl rfl ?_
  refine r_iload_n (pc := 1) 1 d_X7_both_1 rfl rfl ?_
  refine r_iload_n (pc := 2) 2 d_X7_both_2 rfl rfl ?_
  refine q_cI (f := (oI Sh)) (av := [.ref 22, .int v1, .int v2]) (st := []) (z_runV ck_X7_single rfl ml_X7_78 ci_X7_single cv_X7_single (K_22 h0) (ci := 7) rfl rfl (Nat.le_of_ble_eq_true rfl) d_X7_both_3) (hf_X7_single v1 v2 D) kp_I (fun q1 _ => ?_)
  refine r_if_ne (f := (oI Sh)) (pc := 6) 11 d_X7_both_6 (by decide) (fun c2 => ?_) (fun c2 => ?_)
  · refine r_iconst (pc := 11) (0 : Int32) d_X7_both_11 rfl ?_
    refine r_istore_n (pc := 12) (ls' := [(3, .int (0 : Int32)), (0, .ref 22), (1, .int v1), (2, .int v2)]) d_X7_both_12 rfl (Nat.le_of_ble_eq_true rfl) rfl ?_
    refine r_pick [1, 2, 3, 0] (ls' := [(0, .ref 22), (1, .int v1), (2, .int v2), (3, .int (0 : Int32))]) rfl ?_
    exact s_X7_both_13 hst h0 hd f_X7_single hf_X7_single zFU  (0 : Int32) q1.2
  · refine r_iconst (pc := 9) (0 : Int32) d_X7_both_9 rfl ?_
    exact r_zret (pc := 10) rfl (by decide) d_X7_both_10
/-! CoveredSigns$RuleText.choice -/
theorem d_X7_choice_0 : decode (yB m_X7_choice) 0 = .ok (.aload_n 0, 1) := by decide +kernel
theorem d_X7_choice_1 : decode (yB m_X7_choice) 1 = .ok (.iload_n 1, 1) := by decide +kernel
theorem d_X7_choice_2 : decode (yB m_X7_choice) 2 = .ok (.iload_n 2, 1) := by decide +kernel
theorem d_X7_choice_3 : decode (yB m_X7_choice) 3 = .ok (.invokevirtual 65, 3) := by decide +kernel
theorem d_X7_choice_6 : decode (yB m_X7_choice) 6 = .ok (.ifCond .ne 5, 3) := by decide +kernel
theorem d_X7_choice_9 : decode (yB m_X7_choice) 9 = .ok (.iconst 0, 1) := by decide +kernel
theorem d_X7_choice_10 : decode (yB m_X7_choice) 10 = .ok (.ireturn, 1) := by decide +kernel
theorem d_X7_choice_11 : decode (yB m_X7_choice) 11 = .ok (.iconst 0, 1) := by decide +kernel
theorem d_X7_choice_12 : decode (yB m_X7_choice) 12 = .ok (.istore_n 3, 1) := by decide +kernel
theorem d_X7_choice_13 : decode (yB m_X7_choice) 13 = .ok (.iload_n 3, 1) := by decide +kernel
theorem d_X7_choice_14 : decode (yB m_X7_choice) 14 = .ok (.sipush 500, 3) := by decide +kernel
theorem d_X7_choice_17 : decode (yB m_X7_choice) 17 = .ok (.if_icmp .ge 52, 3) := by decide +kernel
theorem d_X7_choice_20 : decode (yB m_X7_choice) 20 = .ok (.aload_n 0, 1) := by decide +kernel
theorem d_X7_choice_21 : decode (yB m_X7_choice) 21 = .ok (.getfield 26, 3) := by decide +kernel
theorem d_X7_choice_24 : decode (yB m_X7_choice) 24 = .ok (.ldc 68, 2) := by decide +kernel
theorem d_X7_choice_26 : decode (yB m_X7_choice) 26 = .ok (.invokevirtual 70, 3) := by decide +kernel
theorem d_X7_choice_29 : decode (yB m_X7_choice) 29 = .ok (.ifCond .ne 5, 3) := by decide +kernel
theorem d_X7_choice_32 : decode (yB m_X7_choice) 32 = .ok (.iconst 1, 1) := by decide +kernel
theorem d_X7_choice_33 : decode (yB m_X7_choice) 33 = .ok (.ireturn, 1) := by decide +kernel
theorem d_X7_choice_34 : decode (yB m_X7_choice) 34 = .ok (.aload_n 0, 1) := by decide +kernel
theorem d_X7_choice_35 : decode (yB m_X7_choice) 35 = .ok (.iload_n 1, 1) := by decide +kernel
theorem d_X7_choice_36 : decode (yB m_X7_choice) 36 = .ok (.iload_n 2, 1) := by decide +kernel
theorem d_X7_choice_37 : decode (yB m_X7_choice) 37 = .ok (.iconst 1, 1) := by decide +kernel
theorem d_X7_choice_38 : decode (yB m_X7_choice) 38 = .ok (.iadd, 1) := by decide +kernel
theorem d_X7_choice_39 : decode (yB m_X7_choice) 39 = .ok (.invokevirtual 65, 3) := by decide +kernel
theorem d_X7_choice_42 : decode (yB m_X7_choice) 42 = .ok (.ifCond .ne 5, 3) := by decide +kernel
theorem d_X7_choice_45 : decode (yB m_X7_choice) 45 = .ok (.iconst 0, 1) := by decide +kernel
theorem d_X7_choice_46 : decode (yB m_X7_choice) 46 = .ok (.ireturn, 1) := by decide +kernel
theorem d_X7_choice_47 : decode (yB m_X7_choice) 47 = .ok (.aload_n 0, 1) := by decide +kernel
theorem d_X7_choice_48 : decode (yB m_X7_choice) 48 = .ok (.aload_n 0, 1) := by decide +kernel
theorem d_X7_choice_49 : decode (yB m_X7_choice) 49 = .ok (.iload_n 2, 1) := by decide +kernel
theorem d_X7_choice_50 : decode (yB m_X7_choice) 50 = .ok (.invokevirtual 30, 3) := by decide +kernel
theorem d_X7_choice_53 : decode (yB m_X7_choice) 53 = .ok (.aload_n 0, 1) := by decide +kernel
theorem d_X7_choice_54 : decode (yB m_X7_choice) 54 = .ok (.iload_n 2, 1) := by decide +kernel
theorem d_X7_choice_55 : decode (yB m_X7_choice) 55 = .ok (.iconst 1, 1) := by decide +kernel
theorem d_X7_choice_56 : decode (yB m_X7_choice) 56 = .ok (.iadd, 1) := by decide +kernel
theorem d_X7_choice_57 : decode (yB m_X7_choice) 57 = .ok (.invokevirtual 30, 3) := by decide +kernel
theorem d_X7_choice_60 : decode (yB m_X7_choice) 60 = .ok (.invokevirtual 74, 3) := by decide +kernel
theorem d_X7_choice_63 : decode (yB m_X7_choice) 63 = .ok (.iinc 3 1, 3) := by decide +kernel
theorem d_X7_choice_66 : decode (yB m_X7_choice) 66 = .ok (.goto (-53), 3) := by decide +kernel
theorem d_X7_choice_69 : decode (yB m_X7_choice) 69 = .ok (.iconst 1, 1) := by decide +kernel
theorem d_X7_choice_70 : decode (yB m_X7_choice) 70 = .ok (.ireturn, 1) := by decide +kernel
def fn_X7_choice_13 (f_X7_both : Int32 → Int32 → zD → Option (Int32 × zD)) (v1 : Int32) (v2 : Int32) : Nat → Int32 → zD → Option (Int32 × zD)
  | 0, _, _ => none
  | n + 1, v3, D => (if (500 : Int32) ≤ v3 then ((some ((1 : Int32), D))) else ((fn_X8_takesWord 16 D).bind fun q4 => (if q4.1 = 0 then ((some ((1 : Int32), q4.2))) else ((f_X7_both v1 (v2 + (1 : Int32)) q4.2).bind fun q6 => (if q6.1 = 0 then ((some ((0 : Int32), q6.2))) else ((fn_X7_at v2 q6.2).bind fun o8 => (fn_X7_at (v2 + (1 : Int32)) q6.2).bind fun o10 => (fn_X7_unite o8 o10 q6.2).bind fun D12 => ((fn_X7_choice_13 f_X7_both v1 v2 n) (v3 + (1 : Int32)) D12)))))))
def fn_X7_choice (f_X7_both : Int32 → Int32 → zD → Option (Int32 × zD)) (v1 : Int32) (v2 : Int32) (D : zD) : Option (Int32 × zD) := (f_X7_both v1 v2 D).bind fun q1 => (if q1.1 = 0 then ((some ((0 : Int32), q1.2))) else ((fn_X7_choice_13 f_X7_both v1 v2 zFU (0 : Int32) q1.2)))
theorem s_X7_choice_13 {X : zX} {Sh : zSh} {d : Nat} (hst : (zl X).stackTraces = false) (h0 : zSh0 Sh) (hd : 6 ≤ d) {v1 : Int32} {v2 : Int32} (f_X7_both : Int32 → Int32 → zD → Option (Int32 × zD)) (hf_X7_both : ∀ (v1 : Int32) (v2 : Int32) (D : zD), Sd X m_X7_both d [.ref 22, .int v1, .int v2] (Sh, D) ((oI Sh) (f_X7_both v1 v2 D))) : ∀ (n : Nat) (v3 : Int32) (D : zD) , Rn X m_X7_choice (d + 1) 13 [(0, .ref 22), (1, .int v1), (2, .int v2), (3, .int v3)] [] (Sh, D) ((oI Sh) (fn_X7_choice_13 f_X7_both v1 v2 n v3 D)) := by
  intro n
  induction n with
  | zero => intro v3 D; exact Rn_none rfl
  | succ n hk13 =>
    intro v3 D
    rw [fn_X7_choice_13]
    refine r_iload_n (pc := 13) 3 d_X7_choice_13 rfl rfl ?_
    refine r_sipush (pc := 14) (500 : Int32) d_X7_choice_14 rfl ?_
    refine r_icmp_ge (f := (oI Sh)) (pc := 17) 69 d_X7_choice_17 (by decide) (fun c3 => ?_) (fun c3 => ?_)
    · refine r_iconst (pc := 69) (1 : Int32) d_X7_choice_69 rfl ?_
      exact r_zret (pc := 70) rfl (by decide) d_X7_choice_70
    · refine r_aload_n (pc := 20) 0 d_X7_choice_20 rfl rfl ?_
      refine r_getR (pc := 21) g_X7_26 (K_22 h0) rfl (R_22_0 h0) d_X7_choice_21 ?_
      refine r_ldcS (pc := 24) (q := (zR7, 68, "or", 16)) (str_X7_68) rfl rfl d_X7_choice_24 ?_
      refine q_cI (f := (oI Sh)) (av := [.ref 2, .ref (1000000 + 16)]) (st := []) (z_runV ck_X8_takesWord rfl ml_X7_70 ci_X8_takesWord cv_X8_takesWord (K_2 h0) (ci := 8) rfl rfl (Nat.le_of_ble_eq_true rfl) d_X7_choice_26) (s_X8_takesWord hst h0 (by omega) (by decide)) kp_I (fun q4 _ => ?_)
      refine r_if_ne (f := (oI Sh)) (pc := 29) 34 d_X7_choice_29 (by decide) (fun c5 => ?_) (fun c5 => ?_)
      · refine r_aload_n (pc := 34) 0 d_X7_choice_34 rfl rfl ?_
        refine r_iload_n (pc := 35) 1 d_X7_choice_35 rfl rfl ?_
        refine r_iload_n (pc := 36) 2 d_X7_choice_36 rfl rfl ?_
        refine r_iconst (pc := 37) (1 : Int32) d_X7_choice_37 rfl ?_
        refine r_iadd (pc := 38) d_X7_choice_38 ?_
        refine q_cI (f := (oI Sh)) (av := [.ref 22, .int v1, .int (v2 + (1 : Int32))]) (st := []) (z_runV ck_X7_both rfl ml_X7_65 ci_X7_both cv_X7_both (K_22 h0) (ci := 7) rfl rfl (Nat.le_of_ble_eq_true rfl) d_X7_choice_39) (hf_X7_both v1 (v2 + (1 : Int32)) q4.2) kp_I (fun q6 _ => ?_)
        refine r_if_ne (f := (oI Sh)) (pc := 42) 47 d_X7_choice_42 (by decide) (fun c7 => ?_) (fun c7 => ?_)
        · refine r_aload_n (pc := 47) 0 d_X7_choice_47 rfl rfl ?_
          refine r_aload_n (pc := 48) 0 d_X7_choice_48 rfl rfl ?_
          refine r_iload_n (pc := 49) 2 d_X7_choice_49 rfl rfl ?_
          refine q_cA (f := (oI Sh)) (av := [.ref 22, .int v2]) (st := [.ref 22]) (z_runV ck_X7_at rfl ml_X7_30 ci_X7_at cv_X7_at (K_22 h0) (ci := 7) rfl rfl (Nat.le_of_ble_eq_true rfl) d_X7_choice_50) (s_X7_at hst h0 (by omega)) kp_I (fun o8 ha9 => ?_)
          refine r_aload_n (pc := 53) 0 d_X7_choice_53 rfl rfl ?_
          refine r_iload_n (pc := 54) 2 d_X7_choice_54 rfl rfl ?_
          refine r_iconst (pc := 55) (1 : Int32) d_X7_choice_55 rfl ?_
          refine r_iadd (pc := 56) d_X7_choice_56 ?_
          refine q_cA (f := (oI Sh)) (av := [.ref 22, .int (v2 + (1 : Int32))]) (st := [.ref o8, .ref 22]) (z_runV ck_X7_at rfl ml_X7_30 ci_X7_at cv_X7_at (K_22 h0) (ci := 7) rfl rfl (Nat.le_of_ble_eq_true rfl) d_X7_choice_57) (s_X7_at hst h0 (by omega)) kp_I (fun o10 ha11 => ?_)
          refine q_cV (f := (oI Sh)) (av := [.ref 22, .ref o8, .ref o10]) (st := []) (z_runV ck_X7_unite rfl ml_X7_74 ci_X7_unite cv_X7_unite (K_22 h0) (ci := 7) rfl rfl (Nat.le_of_ble_eq_true rfl) d_X7_choice_60) (s_X7_unite hst h0 (by omega) (al_X7_at ha9) (al_X7_at ha11)) kp_I (fun D12 _ => ?_)
          refine r_iinc (pc := 63) ((v3 + (1 : Int32))) 3 (ls' := [(3, .int (v3 + (1 : Int32))), (0, .ref 22), (1, .int v1), (2, .int v2)]) d_X7_choice_63 rfl rfl (Nat.le_of_ble_eq_true rfl) rfl ?_
          refine r_goto (pc := 66) 13 d_X7_choice_66 (by decide) ?_
          refine r_pick [1, 2, 3, 0] (ls' := [(0, .ref 22), (1, .int v1), (2, .int v2), (3, .int (v3 + (1 : Int32)))]) rfl ?_
          exact hk13 (v3 + (1 : Int32)) D12 
        · refine r_iconst (pc := 45) (0 : Int32) d_X7_choice_45 rfl ?_
          exact r_zret (pc := 46) rfl (by decide) d_X7_choice_46
      · refine r_iconst (pc := 32) (1 : Int32) d_X7_choice_32 rfl ?_
        exact r_zret (pc := 33) rfl (by decide) d_X7_choice_33
theorem b_X7_choice {X : zX} {Sh : zSh} {d : Nat} (hst : (zl X).stackTraces = false) (h0 : zSh0 Sh) (hd : 6 ≤ d) {v1 : Int32} {v2 : Int32} (f_X7_both : Int32 → Int32 → zD → Option (Int32 × zD)) (hf_X7_both : ∀ (v1 : Int32) (v2 : Int32) (D : zD), Sd X m_X7_both d [.ref 22, .int v1, .int v2] (Sh, D) ((oI Sh) (f_X7_both v1 v2 D))) {D : zD} : Sd X m_X7_choice (d + 1) [.ref 22, .int v1, .int v2] (Sh, D) ((oI Sh) (fn_X7_choice f_X7_both v1 v2 D)) := by
  refine z_body ck_X7_choice rfl (Nat.le_of_ble_eq_true rfl) rfl hst ?_
  rw [fn_X7_choice]
  show Rn X m_X7_choice (d + 1) 0 [(0, .ref 22), (1, .int v1), (2, .int v2)] [] (Sh, D) _
  refine r_aload_n (pc := 0) 0 d_X7_choice_0 rfl rfl ?_
  refine r_iload_n (pc := 1) 1 d_X7_choice_1 rfl rfl ?_
  refine r_iload_n (pc := 2) 2 d_X7_choice_2 rfl rfl ?_
  refine q_cI (f := (oI Sh)) (av := [.ref 22, .int v1, .int v2]) (st := []) (z_runV ck_X7_both rfl ml_X7_65 ci_X7_both cv_X7_both (K_22 h0) (ci := 7) rfl rfl (Nat.le_of_ble_eq_true rfl) d_X7_choice_3) (hf_X7_both v1 v2 D) kp_I (fun q1 _ => ?_)
  refine r_if_ne (f := (oI Sh)) (pc := 6) 11 d_X7_choice_6 (by decide) (fun c2 => ?_) (fun c2 => ?_)
  · refine r_iconst (pc := 11) (0 : Int32) d_X7_choice_11 rfl ?_
    refine r_istore_n (pc := 12) (ls' := [(3, .int (0 : Int32)), (0, .ref 22), (1, .int v1), (2, .int v2)]) d_X7_choice_12 rfl (Nat.le_of_ble_eq_true rfl) rfl ?_
    refine r_pick [1, 2, 3, 0] (ls' := [(0, .ref 22), (1, .int v1), (2, .int v2), (3, .int (0 : Int32))]) rfl ?_
    exact s_X7_choice_13 hst h0 hd f_X7_both hf_X7_both zFU  (0 : Int32) q1.2
  · refine r_iconst (pc := 9) (0 : Int32) d_X7_choice_9 rfl ?_
    exact r_zret (pc := 10) rfl (by decide) d_X7_choice_10
def fn_X7_singleR : Nat → Int32 → Int32 → zD → Option (Int32 × zD)
  | 0, _, _, _ => none
  | n + 1, v1, v2, D => fn_X7_single (fn_X7_choice (fn_X7_both (fn_X7_singleR n))) (fn_X7_singleR n) v1 v2 D
theorem s_X7_singleR {X : zX} {Sh : zSh} (hst : (zl X).stackTraces = false) (h0 : zSh0 Sh) : ∀ (n d : Nat) (hd : n * 3 + 10 ≤ d) (v1 : Int32) (v2 : Int32) (D : zD) , Sd X m_X7_single d [.ref 22, .int v1, .int v2] (Sh, D) ((oI Sh) (fn_X7_singleR n v1 v2 D))
  | 0, d, _, _, _, _ => fun o M' h => by cases h
  | n + 1, d, hd, v1, v2, D => by
    obtain ⟨d, rfl⟩ : ∃ e, d = e + 1 := ⟨d - 1, by omega⟩
    obtain ⟨e, he⟩ : ∃ e, d = e + 2 := ⟨d - 2, by omega⟩
    have hS : ∀ d2, n * 3 + 10 ≤ d2 → ∀ (v1 : Int32) (v2 : Int32) (D : zD) , Sd X m_X7_single d2 [.ref 22, .int v1, .int v2] (Sh, D) ((oI Sh) (fn_X7_singleR n v1 v2 D)) := fun d2 h2 v1 v2 D  => s_X7_singleR hst h0 n d2 h2 v1 v2 D 
    have hC : ∀ (v1 : Int32) (v2 : Int32) (D : zD) , Sd X m_X7_choice d [.ref 22, .int v1, .int v2] (Sh, D) ((oI Sh) (fn_X7_choice (fn_X7_both (fn_X7_singleR n)) v1 v2 D)) := by
      intro v1 v2 D 
      subst he
      exact b_X7_choice hst h0 (by omega) _ (fun v1 v2 D  => b_X7_both hst h0 (by omega) _ (fun v1 v2 D  => hS e (by omega) v1 v2 D ) ) 
    exact b_X7_single hst h0 (by omega) _ hC _ (fun v1 v2 D  => hS d (by omega) v1 v2 D ) 
def fn_X7_choiceT (v1 : Int32) (v2 : Int32) (D : zD) : Option (Int32 × zD) := fn_X7_choice (fn_X7_both (fn_X7_singleR 12)) v1 v2 D
theorem s_X7_choiceT {X : zX} {Sh : zSh} {d : Nat} (hst : (zl X).stackTraces = false) (h0 : zSh0 Sh) (hd : 49 ≤ d) {v1 : Int32} {v2 : Int32}  {D : zD} : Sd X m_X7_choice d [.ref 22, .int v1, .int v2] (Sh, D) ((oI Sh) (fn_X7_choiceT v1 v2 D)) := by
  obtain ⟨d, rfl⟩ : ∃ e, d = e + 2 := ⟨d - 2, by omega⟩
  exact b_X7_choice hst h0 (by omega) _ (fun v1 v2 D  => b_X7_both hst h0 (by omega) _ (fun v1 v2 D  => s_X7_singleR hst h0 12 d (by omega) v1 v2 D ) ) 
/-! CoveredSigns$RuleText.parse -/
theorem d_X7_parse_0 : decode (yB m_X7_parse) 0 = .ok (.aload_n 0, 1) := by decide +kernel
theorem d_X7_parse_1 : decode (yB m_X7_parse) 1 = .ok (.iload_n 1, 1) := by decide +kernel
theorem d_X7_parse_2 : decode (yB m_X7_parse) 2 = .ok (.putfield 34, 3) := by decide +kernel
theorem d_X7_parse_5 : decode (yB m_X7_parse) 5 = .ok (.aload_n 0, 1) := by decide +kernel
theorem d_X7_parse_6 : decode (yB m_X7_parse) 6 = .ok (.iload_n 2, 1) := by decide +kernel
theorem d_X7_parse_7 : decode (yB m_X7_parse) 7 = .ok (.putfield 38, 3) := by decide +kernel
theorem d_X7_parse_10 : decode (yB m_X7_parse) 10 = .ok (.aload_n 0, 1) := by decide +kernel
theorem d_X7_parse_11 : decode (yB m_X7_parse) 11 = .ok (.iconst 0, 1) := by decide +kernel
theorem d_X7_parse_12 : decode (yB m_X7_parse) 12 = .ok (.putfield 41, 3) := by decide +kernel
theorem d_X7_parse_15 : decode (yB m_X7_parse) 15 = .ok (.aload_n 0, 1) := by decide +kernel
theorem d_X7_parse_16 : decode (yB m_X7_parse) 16 = .ok (.iconst 0, 1) := by decide +kernel
theorem d_X7_parse_17 : decode (yB m_X7_parse) 17 = .ok (.iconst 0, 1) := by decide +kernel
theorem d_X7_parse_18 : decode (yB m_X7_parse) 18 = .ok (.invokevirtual 45, 3) := by decide +kernel
theorem d_X7_parse_21 : decode (yB m_X7_parse) 21 = .ok (.ifCond .ne 5, 3) := by decide +kernel
theorem d_X7_parse_24 : decode (yB m_X7_parse) 24 = .ok (.iconst 0, 1) := by decide +kernel
theorem d_X7_parse_25 : decode (yB m_X7_parse) 25 = .ok (.ireturn, 1) := by decide +kernel
theorem d_X7_parse_26 : decode (yB m_X7_parse) 26 = .ok (.aload_n 0, 1) := by decide +kernel
theorem d_X7_parse_27 : decode (yB m_X7_parse) 27 = .ok (.getfield 26, 3) := by decide +kernel
theorem d_X7_parse_30 : decode (yB m_X7_parse) 30 = .ok (.invokevirtual 49, 3) := by decide +kernel
theorem d_X7_parse_33 : decode (yB m_X7_parse) 33 = .ok (.ifCond .ne 19, 3) := by decide +kernel
theorem d_X7_parse_36 : decode (yB m_X7_parse) 36 = .ok (.aload_n 0, 1) := by decide +kernel
theorem d_X7_parse_37 : decode (yB m_X7_parse) 37 = .ok (.getfield 26, 3) := by decide +kernel
theorem d_X7_parse_40 : decode (yB m_X7_parse) 40 = .ok (.iconst 1, 1) := by decide +kernel
theorem d_X7_parse_41 : decode (yB m_X7_parse) 41 = .ok (.aload_n 0, 1) := by decide +kernel
theorem d_X7_parse_42 : decode (yB m_X7_parse) 42 = .ok (.getfield 26, 3) := by decide +kernel
theorem d_X7_parse_45 : decode (yB m_X7_parse) 45 = .ok (.invokevirtual 55, 3) := by decide +kernel
theorem d_X7_parse_48 : decode (yB m_X7_parse) 48 = .ok (.invokevirtual 59, 3) := by decide +kernel
theorem d_X7_parse_51 : decode (yB m_X7_parse) 51 = .ok (.ireturn, 1) := by decide +kernel
theorem d_X7_parse_52 : decode (yB m_X7_parse) 52 = .ok (.aload_n 0, 1) := by decide +kernel
theorem d_X7_parse_53 : decode (yB m_X7_parse) 53 = .ok (.getfield 41, 3) := by decide +kernel
theorem d_X7_parse_56 : decode (yB m_X7_parse) 56 = .ok (.ifCond .eq 21, 3) := by decide +kernel
theorem d_X7_parse_59 : decode (yB m_X7_parse) 59 = .ok (.aload_n 0, 1) := by decide +kernel
theorem d_X7_parse_60 : decode (yB m_X7_parse) 60 = .ok (.getfield 26, 3) := by decide +kernel
theorem d_X7_parse_63 : decode (yB m_X7_parse) 63 = .ok (.iconst 4, 1) := by decide +kernel
theorem d_X7_parse_64 : decode (yB m_X7_parse) 64 = .ok (.aload_n 0, 1) := by decide +kernel
theorem d_X7_parse_65 : decode (yB m_X7_parse) 65 = .ok (.getfield 26, 3) := by decide +kernel
theorem d_X7_parse_68 : decode (yB m_X7_parse) 68 = .ok (.invokevirtual 62, 3) := by decide +kernel
theorem d_X7_parse_71 : decode (yB m_X7_parse) 71 = .ok (.invokevirtual 59, 3) := by decide +kernel
theorem d_X7_parse_74 : decode (yB m_X7_parse) 74 = .ok (.ifCond .eq 7, 3) := by decide +kernel
theorem d_X7_parse_77 : decode (yB m_X7_parse) 77 = .ok (.iconst 1, 1) := by decide +kernel
theorem d_X7_parse_78 : decode (yB m_X7_parse) 78 = .ok (.goto 4, 3) := by decide +kernel
theorem d_X7_parse_81 : decode (yB m_X7_parse) 81 = .ok (.iconst 0, 1) := by decide +kernel
theorem d_X7_parse_82 : decode (yB m_X7_parse) 82 = .ok (.ireturn, 1) := by decide +kernel
def fn_X7_parse (v1 : Int32) (v2 : Int32) (D : zD) : Option (Int32 × zD) := zlet (sI D 22 4 v1) fun D1 => zlet (sI D1 22 5 v2) fun D2 => zlet (sI D2 22 6 (0 : Int32)) fun D3 => (fn_X7_choiceT (0 : Int32) (0 : Int32) D3).bind fun q4 => (if q4.1 = 0 then ((some ((0 : Int32), q4.2))) else ((fn_X8_ended q4.2).bind fun q6 => (if q6.1 = 0 then ((fn_X8_next q6.2).bind fun q12 => (fn_X8_blame (1 : Int32) q12.1 q12.2).bind fun q13 => zcb q13.1 <| (some (q13.1, q13.2))) else ((if (gI q6.2 22 6) = 0 then ((some ((1 : Int32), q6.2))) else ((fn_X8_length q6.2).bind fun x9 => (fn_X8_blame (4 : Int32) x9 q6.2).bind fun q10 => (if q10.1 = 0 then ((some ((0 : Int32), q10.2))) else ((some ((1 : Int32), q10.2))))))))))
theorem s_X7_parse {X : zX} {Sh : zSh} {d : Nat} (hst : (zl X).stackTraces = false) (h0 : zSh0 Sh) (hd : 50 ≤ d) {v1 : Int32} {v2 : Int32} {D : zD} : Sd X m_X7_parse d [.ref 22, .int v1, .int v2] (Sh, D) ((oI Sh) (fn_X7_parse v1 v2 D)) := by
  obtain ⟨d, rfl⟩ : ∃ e, d = e + 1 := ⟨d - 1, by omega⟩
  replace hd : 49 ≤ d := by omega
  refine z_body ck_X7_parse rfl (Nat.le_of_ble_eq_true rfl) rfl hst ?_
  rw [fn_X7_parse]
  show Rn X m_X7_parse (d + 1) 0 [(0, .ref 22), (1, .int v1), (2, .int v2)] [] (Sh, D) _
  refine r_aload_n (pc := 0) 0 d_X7_parse_0 rfl rfl ?_
  refine r_iload_n (pc := 1) 1 d_X7_parse_1 rfl rfl ?_
  refine r_putI (pc := 2) p_X7_34 (K_22 h0) rfl (Or.inl rfl) d_X7_parse_2 ?_
  refine r_letD (f := (oI Sh)) (fun D1 => ?_)
  refine r_aload_n (pc := 5) 0 d_X7_parse_5 rfl rfl ?_
  refine r_iload_n (pc := 6) 2 d_X7_parse_6 rfl rfl ?_
  refine r_putI (pc := 7) p_X7_38 (K_22 h0) rfl (Or.inl rfl) d_X7_parse_7 ?_
  refine r_letD (f := (oI Sh)) (fun D2 => ?_)
  refine r_aload_n (pc := 10) 0 d_X7_parse_10 rfl rfl ?_
  refine r_iconst (pc := 11) (0 : Int32) d_X7_parse_11 rfl ?_
  refine r_putI (pc := 12) p_X7_41 (K_22 h0) rfl (Or.inr ⟨rfl, by decide⟩) d_X7_parse_12 ?_
  refine r_letD (f := (oI Sh)) (fun D3 => ?_)
  refine r_aload_n (pc := 15) 0 d_X7_parse_15 rfl rfl ?_
  refine r_iconst (pc := 16) (0 : Int32) d_X7_parse_16 rfl ?_
  refine r_iconst (pc := 17) (0 : Int32) d_X7_parse_17 rfl ?_
  refine q_cI (f := (oI Sh)) (av := [.ref 22, .int (0 : Int32), .int (0 : Int32)]) (st := []) (z_runV ck_X7_choice rfl ml_X7_45 ci_X7_choice cv_X7_choice (K_22 h0) (ci := 7) rfl rfl (Nat.le_of_ble_eq_true rfl) d_X7_parse_18) (s_X7_choiceT hst h0 (by omega)) kp_I (fun q4 _ => ?_)
  refine r_if_ne (f := (oI Sh)) (pc := 21) 26 d_X7_parse_21 (by decide) (fun c5 => ?_) (fun c5 => ?_)
  · refine r_aload_n (pc := 26) 0 d_X7_parse_26 rfl rfl ?_
    refine r_getR (pc := 27) g_X7_26 (K_22 h0) rfl (R_22_0 h0) d_X7_parse_27 ?_
    refine q_cI (f := (oI Sh)) (av := [.ref 2]) (st := []) (z_runV ck_X8_ended rfl ml_X7_49 ci_X8_ended cv_X8_ended (K_2 h0) (ci := 8) rfl rfl (Nat.le_of_ble_eq_true rfl) d_X7_parse_30) (s_X8_ended hst h0 (by omega)) kp_I (fun q6 _ => ?_)
    refine r_if_ne (f := (oI Sh)) (pc := 33) 52 d_X7_parse_33 (by decide) (fun c7 => ?_) (fun c7 => ?_)
    · refine r_aload_n (pc := 52) 0 d_X7_parse_52 rfl rfl ?_
      refine q_gI (pc := 53) g_X7_41 (K_22 h0) rfl d_X7_parse_53 ?_
      refine r_if_eq (f := (oI Sh)) (pc := 56) 77 d_X7_parse_56 (by decide) (fun c8 => ?_) (fun c8 => ?_)
      · refine r_iconst (pc := 77) (1 : Int32) d_X7_parse_77 rfl ?_
        refine r_goto (pc := 78) 82 d_X7_parse_78 (by decide) ?_
        exact r_zret (pc := 82) rfl (by decide) d_X7_parse_82
      · refine r_aload_n (pc := 59) 0 d_X7_parse_59 rfl rfl ?_
        refine r_getR (pc := 60) g_X7_26 (K_22 h0) rfl (R_22_0 h0) d_X7_parse_60 ?_
        refine r_iconst (pc := 63) (4 : Int32) d_X7_parse_63 rfl ?_
        refine r_aload_n (pc := 64) 0 d_X7_parse_64 rfl rfl ?_
        refine r_getR (pc := 65) g_X7_26 (K_22 h0) rfl (R_22_0 h0) d_X7_parse_65 ?_
        refine q_cP (f := (oI Sh)) (av := [.ref 2]) (st := [.int (4 : Int32), .ref 2]) (z_runV ck_X8_length rfl ml_X7_62 ci_X8_length cv_X8_length (K_2 h0) (ci := 8) rfl rfl (Nat.le_of_ble_eq_true rfl) d_X7_parse_68) (s_X8_length hst h0 (by omega)) kp_I (fun x9 _ => ?_)
        refine q_cI (f := (oI Sh)) (av := [.ref 2, .int (4 : Int32), .int x9]) (st := []) (z_runV ck_X8_blame rfl ml_X7_59 ci_X8_blame cv_X8_blame (K_2 h0) (ci := 8) rfl rfl (Nat.le_of_ble_eq_true rfl) d_X7_parse_71) (s_X8_blame hst h0 (by omega)) kp_I (fun q10 _ => ?_)
        refine r_if_eq (f := (oI Sh)) (pc := 74) 81 d_X7_parse_74 (by decide) (fun c11 => ?_) (fun c11 => ?_)
        · refine r_iconst (pc := 81) (0 : Int32) d_X7_parse_81 rfl ?_
          exact r_zret (pc := 82) rfl (by decide) d_X7_parse_82
        · refine r_iconst (pc := 77) (1 : Int32) d_X7_parse_77 rfl ?_
          refine r_goto (pc := 78) 82 d_X7_parse_78 (by decide) ?_
          exact r_zret (pc := 82) rfl (by decide) d_X7_parse_82
    · refine r_aload_n (pc := 36) 0 d_X7_parse_36 rfl rfl ?_
      refine r_getR (pc := 37) g_X7_26 (K_22 h0) rfl (R_22_0 h0) d_X7_parse_37 ?_
      refine r_iconst (pc := 40) (1 : Int32) d_X7_parse_40 rfl ?_
      refine r_aload_n (pc := 41) 0 d_X7_parse_41 rfl rfl ?_
      refine r_getR (pc := 42) g_X7_26 (K_22 h0) rfl (R_22_0 h0) d_X7_parse_42 ?_
      refine q_cI (f := (oI Sh)) (av := [.ref 2]) (st := [.int (1 : Int32), .ref 2]) (z_runV ck_X8_next rfl ml_X7_55 ci_X8_next cv_X8_next (K_2 h0) (ci := 8) rfl rfl (Nat.le_of_ble_eq_true rfl) d_X7_parse_45) (s_X8_next hst h0 (by omega)) kp_I (fun q12 _ => ?_)
      refine q_cI (f := (oI Sh)) (av := [.ref 2, .int (1 : Int32), .int q12.1]) (st := []) (z_runV ck_X8_blame rfl ml_X7_59 ci_X8_blame cv_X8_blame (K_2 h0) (ci := 8) rfl rfl (Nat.le_of_ble_eq_true rfl) d_X7_parse_48) (s_X8_blame hst h0 (by omega)) kp_I (fun q13 _ => ?_)
      refine r_cb (f := (oI Sh)) rfl (fun hb14 => ?_)
      exact r_zret (pc := 51) rfl hb14 d_X7_parse_51
  · refine r_iconst (pc := 24) (0 : Int32) d_X7_parse_24 rfl ?_
    exact r_zret (pc := 25) rfl (by decide) d_X7_parse_25

