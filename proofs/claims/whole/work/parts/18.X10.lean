/-! CoveredSigns$Tangle.board -/
theorem d_X10_board_0 : decode (yB m_X10_board) 0 = .ok (.iconst 1, 1) := by decide +kernel
theorem d_X10_board_1 : decode (yB m_X10_board) 1 = .ok (.aload_n 0, 1) := by decide +kernel
theorem d_X10_board_2 : decode (yB m_X10_board) 2 = .ok (.getfield 42, 3) := by decide +kernel
theorem d_X10_board_5 : decode (yB m_X10_board) 5 = .ok (.ishl, 1) := by decide +kernel
theorem d_X10_board_6 : decode (yB m_X10_board) 6 = .ok (.iconst 1, 1) := by decide +kernel
theorem d_X10_board_7 : decode (yB m_X10_board) 7 = .ok (.isub, 1) := by decide +kernel
theorem d_X10_board_8 : decode (yB m_X10_board) 8 = .ok (.ireturn, 1) := by decide +kernel
def fn_X10_board (a0 : Nat) (D : zD) : Option Int32 := (some (((1 : Int32) <<< ((gI D a0 5) &&& 31)) - (1 : Int32)))
theorem s_X10_board {X : zX} {Sh : zSh} {d : Nat} (hst : (zl X).stackTraces = false) (h0 : zSh0 Sh) (hd : 1 ≤ d) {a0 : Nat} (h_a0 : a0 ∈ zI_10) {D : zD} : Sd X m_X10_board d [.ref a0] (Sh, D) ((oP Sh D) (fn_X10_board a0 D)) := by
  obtain ⟨d, rfl⟩ : ∃ e, d = e + 1 := ⟨d - 1, by omega⟩
  replace hd : 0 ≤ d := by omega
  refine z_body ck_X10_board rfl (Nat.le_of_ble_eq_true rfl) rfl hst ?_
  rw [fn_X10_board]
  show Rn X m_X10_board (d + 1) 0 [(0, .ref a0)] [] (Sh, D) _
  refine r_iconst (pc := 0) (1 : Int32) d_X10_board_0 rfl ?_
  refine r_aload_n (pc := 1) 0 d_X10_board_1 rfl rfl ?_
  refine q_gI (pc := 2) g_X10_42 (LK_10 h0 h_a0) rfl d_X10_board_2 ?_
  refine r_ishl (pc := 5) d_X10_board_5 ?_
  refine r_iconst (pc := 6) (1 : Int32) d_X10_board_6 rfl ?_
  refine r_isub (pc := 7) d_X10_board_7 ?_
  exact r_iret (pc := 8) rfl d_X10_board_8
/-! CoveredSigns$Tangle.isSign -/
theorem d_X10_isSign_0 : decode (yB m_X10_isSign) 0 = .ok (.iload_n 1, 1) := by decide +kernel
theorem d_X10_isSign_1 : decode (yB m_X10_isSign) 1 = .ok (.ifCond .lt 21, 3) := by decide +kernel
theorem d_X10_isSign_4 : decode (yB m_X10_isSign) 4 = .ok (.iload_n 1, 1) := by decide +kernel
theorem d_X10_isSign_5 : decode (yB m_X10_isSign) 5 = .ok (.aload_n 0, 1) := by decide +kernel
theorem d_X10_isSign_6 : decode (yB m_X10_isSign) 6 = .ok (.getfield 37, 3) := by decide +kernel
theorem d_X10_isSign_9 : decode (yB m_X10_isSign) 9 = .ok (.if_icmp .ge 13, 3) := by decide +kernel
theorem d_X10_isSign_12 : decode (yB m_X10_isSign) 12 = .ok (.iload_n 1, 1) := by decide +kernel
theorem d_X10_isSign_13 : decode (yB m_X10_isSign) 13 = .ok (.bipush 12, 2) := by decide +kernel
theorem d_X10_isSign_15 : decode (yB m_X10_isSign) 15 = .ok (.if_icmp .ge 7, 3) := by decide +kernel
theorem d_X10_isSign_18 : decode (yB m_X10_isSign) 18 = .ok (.iconst 1, 1) := by decide +kernel
theorem d_X10_isSign_19 : decode (yB m_X10_isSign) 19 = .ok (.goto 4, 3) := by decide +kernel
theorem d_X10_isSign_22 : decode (yB m_X10_isSign) 22 = .ok (.iconst 0, 1) := by decide +kernel
theorem d_X10_isSign_23 : decode (yB m_X10_isSign) 23 = .ok (.ireturn, 1) := by decide +kernel
def fn_X10_isSign (a0 : Nat) (v1 : Int32) (D : zD) : Option Int32 := (if v1 < 0 then ((some (0 : Int32))) else ((if (gI D a0 4) ≤ v1 then ((some (0 : Int32))) else ((if (12 : Int32) ≤ v1 then ((some (0 : Int32))) else ((some (1 : Int32))))))))
theorem s_X10_isSign {X : zX} {Sh : zSh} {d : Nat} (hst : (zl X).stackTraces = false) (h0 : zSh0 Sh) (hd : 1 ≤ d) {a0 : Nat} {v1 : Int32} (h_a0 : a0 ∈ zI_10) {D : zD} : Sd X m_X10_isSign d [.ref a0, .int v1] (Sh, D) ((oP Sh D) (fn_X10_isSign a0 v1 D)) := by
  obtain ⟨d, rfl⟩ : ∃ e, d = e + 1 := ⟨d - 1, by omega⟩
  replace hd : 0 ≤ d := by omega
  refine z_body ck_X10_isSign rfl (Nat.le_of_ble_eq_true rfl) rfl hst ?_
  rw [fn_X10_isSign]
  show Rn X m_X10_isSign (d + 1) 0 [(0, .ref a0), (1, .int v1)] [] (Sh, D) _
  refine r_iload_n (pc := 0) 1 d_X10_isSign_0 rfl rfl ?_
  refine r_if_lt (f := (oP Sh D)) (pc := 1) 22 d_X10_isSign_1 (by decide) (fun c1 => ?_) (fun c1 => ?_)
  · refine r_iconst (pc := 22) (0 : Int32) d_X10_isSign_22 rfl ?_
    exact r_zret (pc := 23) rfl (by decide) d_X10_isSign_23
  · refine r_iload_n (pc := 4) 1 d_X10_isSign_4 rfl rfl ?_
    refine r_aload_n (pc := 5) 0 d_X10_isSign_5 rfl rfl ?_
    refine q_gI (pc := 6) g_X10_37 (LK_10 h0 h_a0) rfl d_X10_isSign_6 ?_
    refine r_icmp_ge (f := (oP Sh D)) (pc := 9) 22 d_X10_isSign_9 (by decide) (fun c2 => ?_) (fun c2 => ?_)
    · refine r_iconst (pc := 22) (0 : Int32) d_X10_isSign_22 rfl ?_
      exact r_zret (pc := 23) rfl (by decide) d_X10_isSign_23
    · refine r_iload_n (pc := 12) 1 d_X10_isSign_12 rfl rfl ?_
      refine r_bipush (pc := 13) (12 : Int32) d_X10_isSign_13 rfl ?_
      refine r_icmp_ge (f := (oP Sh D)) (pc := 15) 22 d_X10_isSign_15 (by decide) (fun c3 => ?_) (fun c3 => ?_)
      · refine r_iconst (pc := 22) (0 : Int32) d_X10_isSign_22 rfl ?_
        exact r_zret (pc := 23) rfl (by decide) d_X10_isSign_23
      · refine r_iconst (pc := 18) (1 : Int32) d_X10_isSign_18 rfl ?_
        refine r_goto (pc := 19) 23 d_X10_isSign_19 (by decide) ?_
        exact r_zret (pc := 23) rfl (by decide) d_X10_isSign_23
/-! CoveredSigns$Tangle.settle -/
theorem d_X10_settle_0 : decode (yB m_X10_settle) 0 = .ok (.aload_n 0, 1) := by decide +kernel
theorem d_X10_settle_1 : decode (yB m_X10_settle) 1 = .ok (.iload_n 1, 1) := by decide +kernel
theorem d_X10_settle_2 : decode (yB m_X10_settle) 2 = .ok (.invokevirtual 64, 3) := by decide +kernel
theorem d_X10_settle_5 : decode (yB m_X10_settle) 5 = .ok (.ifCond .eq 18, 3) := by decide +kernel
theorem d_X10_settle_8 : decode (yB m_X10_settle) 8 = .ok (.aload_n 0, 1) := by decide +kernel
theorem d_X10_settle_9 : decode (yB m_X10_settle) 9 = .ok (.iload_n 2, 1) := by decide +kernel
theorem d_X10_settle_10 : decode (yB m_X10_settle) 10 = .ok (.invokevirtual 64, 3) := by decide +kernel
theorem d_X10_settle_13 : decode (yB m_X10_settle) 13 = .ok (.ifCond .eq 10, 3) := by decide +kernel
theorem d_X10_settle_16 : decode (yB m_X10_settle) 16 = .ok (.aload_n 0, 1) := by decide +kernel
theorem d_X10_settle_17 : decode (yB m_X10_settle) 17 = .ok (.getfield 21, 3) := by decide +kernel
theorem d_X10_settle_20 : decode (yB m_X10_settle) 20 = .ok (.ifnonnull 4, 3) := by decide +kernel
theorem d_X10_settle_23 : decode (yB m_X10_settle) 23 = .ok (.return_, 1) := by decide +kernel
theorem d_X10_settle_24 : decode (yB m_X10_settle) 24 = .ok (.aload_n 0, 1) := by decide +kernel
theorem d_X10_settle_25 : decode (yB m_X10_settle) 25 = .ok (.getfield 9, 3) := by decide +kernel
theorem d_X10_settle_28 : decode (yB m_X10_settle) 28 = .ok (.iload_n 1, 1) := by decide +kernel
theorem d_X10_settle_29 : decode (yB m_X10_settle) 29 = .ok (.iaload, 1) := by decide +kernel
theorem d_X10_settle_30 : decode (yB m_X10_settle) 30 = .ok (.aload_n 0, 1) := by decide +kernel
theorem d_X10_settle_31 : decode (yB m_X10_settle) 31 = .ok (.getfield 9, 3) := by decide +kernel
theorem d_X10_settle_34 : decode (yB m_X10_settle) 34 = .ok (.iload_n 2, 1) := by decide +kernel
theorem d_X10_settle_35 : decode (yB m_X10_settle) 35 = .ok (.iaload, 1) := by decide +kernel
theorem d_X10_settle_36 : decode (yB m_X10_settle) 36 = .ok (.ixor, 1) := by decide +kernel
theorem d_X10_settle_37 : decode (yB m_X10_settle) 37 = .ok (.istore_n 3, 1) := by decide +kernel
theorem d_X10_settle_38 : decode (yB m_X10_settle) 38 = .ok (.aload_n 0, 1) := by decide +kernel
theorem d_X10_settle_39 : decode (yB m_X10_settle) 39 = .ok (.getfield 15, 3) := by decide +kernel
theorem d_X10_settle_42 : decode (yB m_X10_settle) 42 = .ok (.iload_n 1, 1) := by decide +kernel
theorem d_X10_settle_43 : decode (yB m_X10_settle) 43 = .ok (.iaload, 1) := by decide +kernel
theorem d_X10_settle_44 : decode (yB m_X10_settle) 44 = .ok (.iload_n 2, 1) := by decide +kernel
theorem d_X10_settle_45 : decode (yB m_X10_settle) 45 = .ok (.ishr, 1) := by decide +kernel
theorem d_X10_settle_46 : decode (yB m_X10_settle) 46 = .ok (.iconst 1, 1) := by decide +kernel
theorem d_X10_settle_47 : decode (yB m_X10_settle) 47 = .ok (.iand, 1) := by decide +kernel
theorem d_X10_settle_48 : decode (yB m_X10_settle) 48 = .ok (.ifCond .eq 7, 3) := by decide +kernel
theorem d_X10_settle_51 : decode (yB m_X10_settle) 51 = .ok (.iconst 1, 1) := by decide +kernel
theorem d_X10_settle_52 : decode (yB m_X10_settle) 52 = .ok (.goto 4, 3) := by decide +kernel
theorem d_X10_settle_55 : decode (yB m_X10_settle) 55 = .ok (.iconst 0, 1) := by decide +kernel
theorem d_X10_settle_56 : decode (yB m_X10_settle) 56 = .ok (.istore 4, 2) := by decide +kernel
theorem d_X10_settle_58 : decode (yB m_X10_settle) 58 = .ok (.aload_n 0, 1) := by decide +kernel
theorem d_X10_settle_59 : decode (yB m_X10_settle) 59 = .ok (.getfield 21, 3) := by decide +kernel
theorem d_X10_settle_62 : decode (yB m_X10_settle) 62 = .ok (.iload_n 3, 1) := by decide +kernel
theorem d_X10_settle_63 : decode (yB m_X10_settle) 63 = .ok (.aload_n 0, 1) := by decide +kernel
theorem d_X10_settle_64 : decode (yB m_X10_settle) 64 = .ok (.getfield 44, 3) := by decide +kernel
theorem d_X10_settle_67 : decode (yB m_X10_settle) 67 = .ok (.invokevirtual 68, 3) := by decide +kernel
theorem d_X10_settle_70 : decode (yB m_X10_settle) 70 = .ok (.iconst (-1), 1) := by decide +kernel
theorem d_X10_settle_71 : decode (yB m_X10_settle) 71 = .ok (.if_icmp .eq 7, 3) := by decide +kernel
theorem d_X10_settle_74 : decode (yB m_X10_settle) 74 = .ok (.iconst 1, 1) := by decide +kernel
theorem d_X10_settle_75 : decode (yB m_X10_settle) 75 = .ok (.goto 4, 3) := by decide +kernel
theorem d_X10_settle_78 : decode (yB m_X10_settle) 78 = .ok (.iconst 0, 1) := by decide +kernel
theorem d_X10_settle_79 : decode (yB m_X10_settle) 79 = .ok (.istore 5, 2) := by decide +kernel
theorem d_X10_settle_81 : decode (yB m_X10_settle) 81 = .ok (.iload 4, 2) := by decide +kernel
theorem d_X10_settle_83 : decode (yB m_X10_settle) 83 = .ok (.iload 5, 2) := by decide +kernel
theorem d_X10_settle_85 : decode (yB m_X10_settle) 85 = .ok (.if_icmp .eq 46, 3) := by decide +kernel
theorem d_X10_settle_88 : decode (yB m_X10_settle) 88 = .ok (.aload_n 0, 1) := by decide +kernel
theorem d_X10_settle_89 : decode (yB m_X10_settle) 89 = .ok (.getfield 15, 3) := by decide +kernel
theorem d_X10_settle_92 : decode (yB m_X10_settle) 92 = .ok (.iload_n 1, 1) := by decide +kernel
theorem d_X10_settle_93 : decode (yB m_X10_settle) 93 = .ok (.dup2, 1) := by decide +kernel
theorem d_X10_settle_94 : decode (yB m_X10_settle) 94 = .ok (.iaload, 1) := by decide +kernel
theorem d_X10_settle_95 : decode (yB m_X10_settle) 95 = .ok (.iconst 1, 1) := by decide +kernel
theorem d_X10_settle_96 : decode (yB m_X10_settle) 96 = .ok (.iload_n 2, 1) := by decide +kernel
theorem d_X10_settle_97 : decode (yB m_X10_settle) 97 = .ok (.ishl, 1) := by decide +kernel
theorem d_X10_settle_98 : decode (yB m_X10_settle) 98 = .ok (.ixor, 1) := by decide +kernel
theorem d_X10_settle_99 : decode (yB m_X10_settle) 99 = .ok (.iastore, 1) := by decide +kernel
theorem d_X10_settle_100 : decode (yB m_X10_settle) 100 = .ok (.aload_n 0, 1) := by decide +kernel
theorem d_X10_settle_101 : decode (yB m_X10_settle) 101 = .ok (.getfield 15, 3) := by decide +kernel
theorem d_X10_settle_104 : decode (yB m_X10_settle) 104 = .ok (.iload_n 2, 1) := by decide +kernel
theorem d_X10_settle_105 : decode (yB m_X10_settle) 105 = .ok (.dup2, 1) := by decide +kernel
theorem d_X10_settle_106 : decode (yB m_X10_settle) 106 = .ok (.iaload, 1) := by decide +kernel
theorem d_X10_settle_107 : decode (yB m_X10_settle) 107 = .ok (.iconst 1, 1) := by decide +kernel
theorem d_X10_settle_108 : decode (yB m_X10_settle) 108 = .ok (.iload_n 1, 1) := by decide +kernel
theorem d_X10_settle_109 : decode (yB m_X10_settle) 109 = .ok (.ishl, 1) := by decide +kernel
theorem d_X10_settle_110 : decode (yB m_X10_settle) 110 = .ok (.ixor, 1) := by decide +kernel
theorem d_X10_settle_111 : decode (yB m_X10_settle) 111 = .ok (.iastore, 1) := by decide +kernel
theorem d_X10_settle_112 : decode (yB m_X10_settle) 112 = .ok (.aload_n 0, 1) := by decide +kernel
theorem d_X10_settle_113 : decode (yB m_X10_settle) 113 = .ok (.dup, 1) := by decide +kernel
theorem d_X10_settle_114 : decode (yB m_X10_settle) 114 = .ok (.getfield 47, 3) := by decide +kernel
theorem d_X10_settle_117 : decode (yB m_X10_settle) 117 = .ok (.iload 5, 2) := by decide +kernel
theorem d_X10_settle_119 : decode (yB m_X10_settle) 119 = .ok (.ifCond .eq 7, 3) := by decide +kernel
theorem d_X10_settle_122 : decode (yB m_X10_settle) 122 = .ok (.iconst 1, 1) := by decide +kernel
theorem d_X10_settle_123 : decode (yB m_X10_settle) 123 = .ok (.goto 4, 3) := by decide +kernel
theorem d_X10_settle_126 : decode (yB m_X10_settle) 126 = .ok (.iconst (-1), 1) := by decide +kernel
theorem d_X10_settle_127 : decode (yB m_X10_settle) 127 = .ok (.iadd, 1) := by decide +kernel
theorem d_X10_settle_128 : decode (yB m_X10_settle) 128 = .ok (.putfield 47, 3) := by decide +kernel
theorem d_X10_settle_131 : decode (yB m_X10_settle) 131 = .ok (.aload_n 0, 1) := by decide +kernel
theorem d_X10_settle_132 : decode (yB m_X10_settle) 132 = .ok (.getfield 21, 3) := by decide +kernel
theorem d_X10_settle_135 : decode (yB m_X10_settle) 135 = .ok (.iload_n 3, 1) := by decide +kernel
theorem d_X10_settle_136 : decode (yB m_X10_settle) 136 = .ok (.aload_n 0, 1) := by decide +kernel
theorem d_X10_settle_137 : decode (yB m_X10_settle) 137 = .ok (.getfield 44, 3) := by decide +kernel
theorem d_X10_settle_140 : decode (yB m_X10_settle) 140 = .ok (.aload_n 0, 1) := by decide +kernel
theorem d_X10_settle_141 : decode (yB m_X10_settle) 141 = .ok (.invokevirtual 73, 3) := by decide +kernel
theorem d_X10_settle_144 : decode (yB m_X10_settle) 144 = .ok (.invokevirtual 76, 3) := by decide +kernel
theorem d_X10_settle_147 : decode (yB m_X10_settle) 147 = .ok (.istore 6, 2) := by decide +kernel
theorem d_X10_settle_149 : decode (yB m_X10_settle) 149 = .ok (.aload_n 0, 1) := by decide +kernel
theorem d_X10_settle_150 : decode (yB m_X10_settle) 150 = .ok (.getfield 18, 3) := by decide +kernel
theorem d_X10_settle_153 : decode (yB m_X10_settle) 153 = .ok (.iload_n 1, 1) := by decide +kernel
theorem d_X10_settle_154 : decode (yB m_X10_settle) 154 = .ok (.bipush 12, 2) := by decide +kernel
theorem d_X10_settle_156 : decode (yB m_X10_settle) 156 = .ok (.imul, 1) := by decide +kernel
theorem d_X10_settle_157 : decode (yB m_X10_settle) 157 = .ok (.iload_n 2, 1) := by decide +kernel
theorem d_X10_settle_158 : decode (yB m_X10_settle) 158 = .ok (.iadd, 1) := by decide +kernel
theorem d_X10_settle_159 : decode (yB m_X10_settle) 159 = .ok (.iload 6, 2) := by decide +kernel
theorem d_X10_settle_161 : decode (yB m_X10_settle) 161 = .ok (.iastore, 1) := by decide +kernel
theorem d_X10_settle_162 : decode (yB m_X10_settle) 162 = .ok (.aload_n 0, 1) := by decide +kernel
theorem d_X10_settle_163 : decode (yB m_X10_settle) 163 = .ok (.getfield 18, 3) := by decide +kernel
theorem d_X10_settle_166 : decode (yB m_X10_settle) 166 = .ok (.iload_n 2, 1) := by decide +kernel
theorem d_X10_settle_167 : decode (yB m_X10_settle) 167 = .ok (.bipush 12, 2) := by decide +kernel
theorem d_X10_settle_169 : decode (yB m_X10_settle) 169 = .ok (.imul, 1) := by decide +kernel
theorem d_X10_settle_170 : decode (yB m_X10_settle) 170 = .ok (.iload_n 1, 1) := by decide +kernel
theorem d_X10_settle_171 : decode (yB m_X10_settle) 171 = .ok (.iadd, 1) := by decide +kernel
theorem d_X10_settle_172 : decode (yB m_X10_settle) 172 = .ok (.iload 6, 2) := by decide +kernel
theorem d_X10_settle_174 : decode (yB m_X10_settle) 174 = .ok (.iastore, 1) := by decide +kernel
theorem d_X10_settle_175 : decode (yB m_X10_settle) 175 = .ok (.return_, 1) := by decide +kernel
def fn_X10_settle_131 (a0 : Nat) (v1 : Int32) (v2 : Int32) (v3 : Int32) (D : zD) : Option zD := (fn_X10_board a0 D).bind fun x13 => (fn_X3_mixingCells 20 v3 (gI D a0 6) x13 D).bind fun x14 => zck ((v1 * (12 : Int32)) + v2) 144 <| zlet (sI D (a0 + 3) ((v1 * (12 : Int32)) + v2).toNatClampNeg x14) fun D16 => zck ((v2 * (12 : Int32)) + v1) 144 <| zlet (sI D16 (a0 + 3) ((v2 * (12 : Int32)) + v1).toNatClampNeg x14) fun D18 => (some D18)
def fn_X10_settle_127 (a0 : Nat) (v1 : Int32) (v2 : Int32) (v3 : Int32) (w1 : Int32) (w2 : Int32) (D : zD) : Option zD := zlet (sI D a0 7 (w1 + w2)) fun D26 => (fn_X10_settle_131 a0 v1 v2 v3 D26)
def fn_X10_settle_79 (a0 : Nat) (v1 : Int32) (v2 : Int32) (v3 : Int32) (v4 : Int32) (w0 : Int32) (D : zD) : Option zD := (if v4 = w0 then ((fn_X10_settle_131 a0 v1 v2 v3 D)) else (zck v1 12 <| zck v1 12 <| zlet (sI D (a0 + 2) v1.toNatClampNeg ((gI D (a0 + 2) v1.toNatClampNeg) ^^^ ((1 : Int32) <<< (v2 &&& 31)))) fun D21 => zck v2 12 <| zck v2 12 <| zlet (sI D21 (a0 + 2) v2.toNatClampNeg ((gI D21 (a0 + 2) v2.toNatClampNeg) ^^^ ((1 : Int32) <<< (v1 &&& 31)))) fun D24 => (if w0 = 0 then ((fn_X10_settle_127 a0 v1 v2 v3 (gI D24 a0 7) (-1 : Int32) D24)) else ((fn_X10_settle_127 a0 v1 v2 v3 (gI D24 a0 7) (1 : Int32) D24)))))
def fn_X10_settle_56 (a0 : Nat) (v1 : Int32) (v2 : Int32) (v3 : Int32) (w0 : Int32) (D : zD) : Option zD := (fn_X3_firstMixing 20 v3 (gI D a0 6) D).bind fun x10 => (if x10 = (-1 : Int32) then ((fn_X10_settle_79 a0 v1 v2 v3 w0 (0 : Int32) D)) else ((fn_X10_settle_79 a0 v1 v2 v3 w0 (1 : Int32) D)))
def fn_X10_settle (a0 : Nat) (v1 : Int32) (v2 : Int32) (D : zD) : Option zD := (fn_X10_isSign a0 v1 D).bind fun x1 => (if x1 = 0 then ((some D)) else ((fn_X10_isSign a0 v2 D).bind fun x3 => (if x3 = 0 then ((some D)) else (zck v1 12 <| zck v2 12 <| zlet ((gI D (a0 + 1) v1.toNatClampNeg) ^^^ (gI D (a0 + 1) v2.toNatClampNeg)) fun x7 => zck v1 12 <| (if (((gI D (a0 + 2) v1.toNatClampNeg) >>> (v2 &&& 31)) &&& (1 : Int32)) = 0 then ((fn_X10_settle_56 a0 v1 v2 x7 (0 : Int32) D)) else ((fn_X10_settle_56 a0 v1 v2 x7 (1 : Int32) D)))))))
theorem s_X10_settle_131 {X : zX} {Sh : zSh} {d : Nat} (hst : (zl X).stackTraces = false) (h0 : zSh0 Sh) (hd : 2 ≤ d) {a0 : Nat} {v1 : Int32} {v2 : Int32} (h_a0 : a0 ∈ zI_10) (v3 : Int32) (D : zD)  : Rn X m_X10_settle (d + 1) 131 [(0, .ref a0), (1, .int v1), (2, .int v2), (3, .int v3)] [] (Sh, D) ((oV Sh) (fn_X10_settle_131 a0 v1 v2 v3 D)) := by
  rw [fn_X10_settle_131]
  refine r_aload_n (pc := 131) 0 d_X10_settle_131 rfl rfl ?_
  refine r_getR (pc := 132) g_X10_21 (LK_10 h0 h_a0) rfl (LR_10_0 h0 h_a0) d_X10_settle_132 ?_
  refine r_iload_n (pc := 135) 3 d_X10_settle_135 rfl rfl ?_
  refine r_aload_n (pc := 136) 0 d_X10_settle_136 rfl rfl ?_
  refine q_gI (pc := 137) g_X10_44 (LK_10 h0 h_a0) rfl d_X10_settle_137 ?_
  refine r_aload_n (pc := 140) 0 d_X10_settle_140 rfl rfl ?_
  refine q_cP (f := (oV Sh)) (av := [.ref a0]) (st := [.int (gI D a0 6), .int v3, .ref 20]) (z_runV ck_X10_board rfl ml_X10_73 ci_X10_board cv_X10_board (LK_10 h0 h_a0) (ci := 10) rfl rfl (Nat.le_of_ble_eq_true rfl) d_X10_settle_141) (s_X10_board hst h0 (by omega) h_a0) kp_V (fun x13 _ => ?_)
  refine q_cP (f := (oV Sh)) (av := [.ref 20, .int v3, .int (gI D a0 6), .int x13]) (st := []) (z_runV ck_X3_mixingCells rfl ml_X10_76 ci_X3_mixingCells cv_X3_mixingCells (K_20 h0) (ci := 3) rfl rfl (Nat.le_of_ble_eq_true rfl) d_X10_settle_144) (s_X3_mixingCells hst h0 (by omega) (I_20)) kp_V (fun x14 _ => ?_)
  refine r_istore (pc := 147) (ls' := [(6, .int x14), (0, .ref a0), (1, .int v1), (2, .int v2), (3, .int v3)]) d_X10_settle_147 (Nat.le_of_ble_eq_true rfl) rfl ?_
  refine r_aload_n (pc := 149) 1 d_X10_settle_149 rfl rfl ?_
  refine r_getR (pc := 150) g_X10_18 (LK_10 h0 h_a0) rfl (LR_10_3 h0 h_a0) d_X10_settle_150 ?_
  refine r_iload_n (pc := 153) 2 d_X10_settle_153 rfl rfl ?_
  refine r_bipush (pc := 154) (12 : Int32) d_X10_settle_154 rfl ?_
  refine r_imul (pc := 156) d_X10_settle_156 ?_
  refine r_iload_n (pc := 157) 3 d_X10_settle_157 rfl rfl ?_
  refine r_iadd (pc := 158) d_X10_settle_158 ?_
  refine r_iload (pc := 159) 0 d_X10_settle_159 rfl ?_
  refine r_ck (f := (oV Sh)) rfl (fun hc15 => ?_)
  refine q_iast (pc := 161) (j := ((v1 * (12 : Int32)) + v2).toNatClampNeg) (LA_10_3 h0 h_a0) hc15 rfl  d_X10_settle_161 ?_
  refine r_letD (f := (oV Sh)) (fun D16 => ?_)
  refine r_aload_n (pc := 162) 1 d_X10_settle_162 rfl rfl ?_
  refine r_getR (pc := 163) g_X10_18 (LK_10 h0 h_a0) rfl (LR_10_3 h0 h_a0) d_X10_settle_163 ?_
  refine r_iload_n (pc := 166) 3 d_X10_settle_166 rfl rfl ?_
  refine r_bipush (pc := 167) (12 : Int32) d_X10_settle_167 rfl ?_
  refine r_imul (pc := 169) d_X10_settle_169 ?_
  refine r_iload_n (pc := 170) 2 d_X10_settle_170 rfl rfl ?_
  refine r_iadd (pc := 171) d_X10_settle_171 ?_
  refine r_iload (pc := 172) 0 d_X10_settle_172 rfl ?_
  refine r_ck (f := (oV Sh)) rfl (fun hc17 => ?_)
  refine q_iast (pc := 174) (j := ((v2 * (12 : Int32)) + v1).toNatClampNeg) (LA_10_3 h0 h_a0) hc17 rfl  d_X10_settle_174 ?_
  refine r_letD (f := (oV Sh)) (fun D18 => ?_)
  exact r_vret (pc := 175) rfl d_X10_settle_175
theorem s_X10_settle_127 {X : zX} {Sh : zSh} {d : Nat} (hst : (zl X).stackTraces = false) (h0 : zSh0 Sh) (hd : 2 ≤ d) {a0 : Nat} {v1 : Int32} {v2 : Int32} (h_a0 : a0 ∈ zI_10) (v3 : Int32) (w1 : Int32) (w2 : Int32) (D : zD)  : Rn X m_X10_settle (d + 1) 127 [(0, .ref a0), (1, .int v1), (2, .int v2), (3, .int v3)] [.int w2, .int w1, .ref a0] (Sh, D) ((oV Sh) (fn_X10_settle_127 a0 v1 v2 v3 w1 w2 D)) := by
  rw [fn_X10_settle_127]
  refine r_iadd (pc := 127) d_X10_settle_127 ?_
  refine r_putI (pc := 128) p_X10_47 (LK_10 h0 h_a0) rfl (Or.inl rfl) d_X10_settle_128 ?_
  refine r_letD (f := (oV Sh)) (fun D26 => ?_)
  refine r_pick [0, 1, 2, 3] (ls' := [(0, .ref a0), (1, .int v1), (2, .int v2), (3, .int v3)]) rfl ?_
  exact s_X10_settle_131 hst h0 hd h_a0 v3 D26
theorem s_X10_settle_79 {X : zX} {Sh : zSh} {d : Nat} (hst : (zl X).stackTraces = false) (h0 : zSh0 Sh) (hd : 2 ≤ d) {a0 : Nat} {v1 : Int32} {v2 : Int32} (h_a0 : a0 ∈ zI_10) (v3 : Int32) (v4 : Int32) (w0 : Int32) (D : zD)  : Rn X m_X10_settle (d + 1) 79 [(0, .ref a0), (1, .int v1), (2, .int v2), (3, .int v3), (4, .int v4)] [.int w0] (Sh, D) ((oV Sh) (fn_X10_settle_79 a0 v1 v2 v3 v4 w0 D)) := by
  rw [fn_X10_settle_79]
  refine r_istore (pc := 79) (ls' := [(5, .int w0), (0, .ref a0), (1, .int v1), (2, .int v2), (3, .int v3), (4, .int v4)]) d_X10_settle_79 (Nat.le_of_ble_eq_true rfl) rfl ?_
  refine r_iload (pc := 81) 5 d_X10_settle_81 rfl ?_
  refine r_iload (pc := 83) 0 d_X10_settle_83 rfl ?_
  refine r_icmp_eq (f := (oV Sh)) (pc := 85) 131 d_X10_settle_85 (by decide) (fun c12 => ?_) (fun c12 => ?_)
  · refine r_pick [1, 2, 3, 4] (ls' := [(0, .ref a0), (1, .int v1), (2, .int v2), (3, .int v3)]) rfl ?_
    exact s_X10_settle_131 hst h0 hd h_a0 v3 D
  · refine r_aload_n (pc := 88) 1 d_X10_settle_88 rfl rfl ?_
    refine r_getR (pc := 89) g_X10_15 (LK_10 h0 h_a0) rfl (LR_10_2 h0 h_a0) d_X10_settle_89 ?_
    refine r_iload_n (pc := 92) 2 d_X10_settle_92 rfl rfl ?_
    refine r_dup2 (pc := 93) d_X10_settle_93 rfl rfl ?_
    refine r_ck (f := (oV Sh)) rfl (fun hc19 => ?_)
    refine q_iald (pc := 94) (j := v1.toNatClampNeg) (LA_10_2 h0 h_a0) hc19 rfl d_X10_settle_94 ?_
    refine r_iconst (pc := 95) (1 : Int32) d_X10_settle_95 rfl ?_
    refine r_iload_n (pc := 96) 3 d_X10_settle_96 rfl rfl ?_
    refine r_ishl (pc := 97) d_X10_settle_97 ?_
    refine r_ixor (pc := 98) d_X10_settle_98 ?_
    refine r_ck (f := (oV Sh)) rfl (fun hc20 => ?_)
    refine q_iast (pc := 99) (j := v1.toNatClampNeg) (LA_10_2 h0 h_a0) hc20 rfl  d_X10_settle_99 ?_
    refine r_letD (f := (oV Sh)) (fun D21 => ?_)
    refine r_aload_n (pc := 100) 1 d_X10_settle_100 rfl rfl ?_
    refine r_getR (pc := 101) g_X10_15 (LK_10 h0 h_a0) rfl (LR_10_2 h0 h_a0) d_X10_settle_101 ?_
    refine r_iload_n (pc := 104) 3 d_X10_settle_104 rfl rfl ?_
    refine r_dup2 (pc := 105) d_X10_settle_105 rfl rfl ?_
    refine r_ck (f := (oV Sh)) rfl (fun hc22 => ?_)
    refine q_iald (pc := 106) (j := v2.toNatClampNeg) (LA_10_2 h0 h_a0) hc22 rfl d_X10_settle_106 ?_
    refine r_iconst (pc := 107) (1 : Int32) d_X10_settle_107 rfl ?_
    refine r_iload_n (pc := 108) 2 d_X10_settle_108 rfl rfl ?_
    refine r_ishl (pc := 109) d_X10_settle_109 ?_
    refine r_ixor (pc := 110) d_X10_settle_110 ?_
    refine r_ck (f := (oV Sh)) rfl (fun hc23 => ?_)
    refine q_iast (pc := 111) (j := v2.toNatClampNeg) (LA_10_2 h0 h_a0) hc23 rfl  d_X10_settle_111 ?_
    refine r_letD (f := (oV Sh)) (fun D24 => ?_)
    refine r_aload_n (pc := 112) 1 d_X10_settle_112 rfl rfl ?_
    refine r_dup (pc := 113) d_X10_settle_113 rfl ?_
    refine q_gI (pc := 114) g_X10_47 (LK_10 h0 h_a0) rfl d_X10_settle_114 ?_
    refine r_iload (pc := 117) 0 d_X10_settle_117 rfl ?_
    refine r_if_eq (f := (oV Sh)) (pc := 119) 126 d_X10_settle_119 (by decide) (fun c25 => ?_) (fun c25 => ?_)
    · refine r_iconst (pc := 126) (-1 : Int32) d_X10_settle_126 rfl ?_
      refine r_pick [1, 2, 3, 4] (ls' := [(0, .ref a0), (1, .int v1), (2, .int v2), (3, .int v3)]) rfl ?_
      exact s_X10_settle_127 hst h0 hd h_a0 v3 (gI D24 a0 7) (-1 : Int32) D24
    · refine r_iconst (pc := 122) (1 : Int32) d_X10_settle_122 rfl ?_
      refine r_goto (pc := 123) 127 d_X10_settle_123 (by decide) ?_
      refine r_pick [1, 2, 3, 4] (ls' := [(0, .ref a0), (1, .int v1), (2, .int v2), (3, .int v3)]) rfl ?_
      exact s_X10_settle_127 hst h0 hd h_a0 v3 (gI D24 a0 7) (1 : Int32) D24
theorem s_X10_settle_56 {X : zX} {Sh : zSh} {d : Nat} (hst : (zl X).stackTraces = false) (h0 : zSh0 Sh) (hd : 2 ≤ d) {a0 : Nat} {v1 : Int32} {v2 : Int32} (h_a0 : a0 ∈ zI_10) (v3 : Int32) (w0 : Int32) (D : zD)  : Rn X m_X10_settle (d + 1) 56 [(0, .ref a0), (1, .int v1), (2, .int v2), (3, .int v3)] [.int w0] (Sh, D) ((oV Sh) (fn_X10_settle_56 a0 v1 v2 v3 w0 D)) := by
  rw [fn_X10_settle_56]
  refine r_istore (pc := 56) (ls' := [(4, .int w0), (0, .ref a0), (1, .int v1), (2, .int v2), (3, .int v3)]) d_X10_settle_56 (Nat.le_of_ble_eq_true rfl) rfl ?_
  refine r_aload_n (pc := 58) 1 d_X10_settle_58 rfl rfl ?_
  refine r_getR (pc := 59) g_X10_21 (LK_10 h0 h_a0) rfl (LR_10_0 h0 h_a0) d_X10_settle_59 ?_
  refine r_iload_n (pc := 62) 4 d_X10_settle_62 rfl rfl ?_
  refine r_aload_n (pc := 63) 1 d_X10_settle_63 rfl rfl ?_
  refine q_gI (pc := 64) g_X10_44 (LK_10 h0 h_a0) rfl d_X10_settle_64 ?_
  refine q_cP (f := (oV Sh)) (av := [.ref 20, .int v3, .int (gI D a0 6)]) (st := []) (z_runV ck_X3_firstMixing rfl ml_X10_68 ci_X3_firstMixing cv_X3_firstMixing (K_20 h0) (ci := 3) rfl rfl (Nat.le_of_ble_eq_true rfl) d_X10_settle_67) (s_X3_firstMixing hst h0 (by omega) (I_20)) kp_V (fun x10 _ => ?_)
  refine r_iconst (pc := 70) (-1 : Int32) d_X10_settle_70 rfl ?_
  refine r_icmp_eq (f := (oV Sh)) (pc := 71) 78 d_X10_settle_71 (by decide) (fun c11 => ?_) (fun c11 => ?_)
  · refine r_iconst (pc := 78) (0 : Int32) d_X10_settle_78 rfl ?_
    refine r_pick [1, 2, 3, 4, 0] (ls' := [(0, .ref a0), (1, .int v1), (2, .int v2), (3, .int v3), (4, .int w0)]) rfl ?_
    exact s_X10_settle_79 hst h0 hd h_a0 v3 w0 (0 : Int32) D
  · refine r_iconst (pc := 74) (1 : Int32) d_X10_settle_74 rfl ?_
    refine r_goto (pc := 75) 79 d_X10_settle_75 (by decide) ?_
    refine r_pick [1, 2, 3, 4, 0] (ls' := [(0, .ref a0), (1, .int v1), (2, .int v2), (3, .int v3), (4, .int w0)]) rfl ?_
    exact s_X10_settle_79 hst h0 hd h_a0 v3 w0 (1 : Int32) D
theorem s_X10_settle {X : zX} {Sh : zSh} {d : Nat} (hst : (zl X).stackTraces = false) (h0 : zSh0 Sh) (hd : 3 ≤ d) {a0 : Nat} {v1 : Int32} {v2 : Int32} (h_a0 : a0 ∈ zI_10) {D : zD} : Sd X m_X10_settle d [.ref a0, .int v1, .int v2] (Sh, D) ((oV Sh) (fn_X10_settle a0 v1 v2 D)) := by
  obtain ⟨d, rfl⟩ : ∃ e, d = e + 1 := ⟨d - 1, by omega⟩
  replace hd : 2 ≤ d := by omega
  refine z_body ck_X10_settle rfl (Nat.le_of_ble_eq_true rfl) rfl hst ?_
  rw [fn_X10_settle]
  show Rn X m_X10_settle (d + 1) 0 [(0, .ref a0), (1, .int v1), (2, .int v2)] [] (Sh, D) _
  refine r_aload_n (pc := 0) 0 d_X10_settle_0 rfl rfl ?_
  refine r_iload_n (pc := 1) 1 d_X10_settle_1 rfl rfl ?_
  refine q_cP (f := (oV Sh)) (av := [.ref a0, .int v1]) (st := []) (z_runV ck_X10_isSign rfl ml_X10_64 ci_X10_isSign cv_X10_isSign (LK_10 h0 h_a0) (ci := 10) rfl rfl (Nat.le_of_ble_eq_true rfl) d_X10_settle_2) (s_X10_isSign hst h0 (by omega) h_a0) kp_V (fun x1 _ => ?_)
  refine r_if_eq (f := (oV Sh)) (pc := 5) 23 d_X10_settle_5 (by decide) (fun c2 => ?_) (fun c2 => ?_)
  · exact r_vret (pc := 23) rfl d_X10_settle_23
  · refine r_aload_n (pc := 8) 0 d_X10_settle_8 rfl rfl ?_
    refine r_iload_n (pc := 9) 2 d_X10_settle_9 rfl rfl ?_
    refine q_cP (f := (oV Sh)) (av := [.ref a0, .int v2]) (st := []) (z_runV ck_X10_isSign rfl ml_X10_64 ci_X10_isSign cv_X10_isSign (LK_10 h0 h_a0) (ci := 10) rfl rfl (Nat.le_of_ble_eq_true rfl) d_X10_settle_10) (s_X10_isSign hst h0 (by omega) h_a0) kp_V (fun x3 _ => ?_)
    refine r_if_eq (f := (oV Sh)) (pc := 13) 23 d_X10_settle_13 (by decide) (fun c4 => ?_) (fun c4 => ?_)
    · exact r_vret (pc := 23) rfl d_X10_settle_23
    · refine r_aload_n (pc := 16) 0 d_X10_settle_16 rfl rfl ?_
      refine r_getR (pc := 17) g_X10_21 (LK_10 h0 h_a0) rfl (LR_10_0 h0 h_a0) d_X10_settle_17 ?_
      refine r_nonnull (pc := 20) 24 d_X10_settle_20 (by decide) ?_
      refine r_aload_n (pc := 24) 0 d_X10_settle_24 rfl rfl ?_
      refine r_getR (pc := 25) g_X10_9 (LK_10 h0 h_a0) rfl (LR_10_1 h0 h_a0) d_X10_settle_25 ?_
      refine r_iload_n (pc := 28) 1 d_X10_settle_28 rfl rfl ?_
      refine r_ck (f := (oV Sh)) rfl (fun hc5 => ?_)
      refine q_iald (pc := 29) (j := v1.toNatClampNeg) (LA_10_1 h0 h_a0) hc5 rfl d_X10_settle_29 ?_
      refine r_aload_n (pc := 30) 0 d_X10_settle_30 rfl rfl ?_
      refine r_getR (pc := 31) g_X10_9 (LK_10 h0 h_a0) rfl (LR_10_1 h0 h_a0) d_X10_settle_31 ?_
      refine r_iload_n (pc := 34) 2 d_X10_settle_34 rfl rfl ?_
      refine r_ck (f := (oV Sh)) rfl (fun hc6 => ?_)
      refine q_iald (pc := 35) (j := v2.toNatClampNeg) (LA_10_1 h0 h_a0) hc6 rfl d_X10_settle_35 ?_
      refine r_ixor (pc := 36) d_X10_settle_36 ?_
      refine r_leti (f := (oV Sh)) (fun x7 => ?_)
      refine r_istore_n (pc := 37) (ls' := [(3, .int x7), (0, .ref a0), (1, .int v1), (2, .int v2)]) d_X10_settle_37 rfl (Nat.le_of_ble_eq_true rfl) rfl ?_
      refine r_aload_n (pc := 38) 1 d_X10_settle_38 rfl rfl ?_
      refine r_getR (pc := 39) g_X10_15 (LK_10 h0 h_a0) rfl (LR_10_2 h0 h_a0) d_X10_settle_39 ?_
      refine r_iload_n (pc := 42) 2 d_X10_settle_42 rfl rfl ?_
      refine r_ck (f := (oV Sh)) rfl (fun hc8 => ?_)
      refine q_iald (pc := 43) (j := v1.toNatClampNeg) (LA_10_2 h0 h_a0) hc8 rfl d_X10_settle_43 ?_
      refine r_iload_n (pc := 44) 3 d_X10_settle_44 rfl rfl ?_
      refine r_ishr (pc := 45) d_X10_settle_45 ?_
      refine r_iconst (pc := 46) (1 : Int32) d_X10_settle_46 rfl ?_
      refine r_iand (pc := 47) d_X10_settle_47 ?_
      refine r_if_eq (f := (oV Sh)) (pc := 48) 55 d_X10_settle_48 (by decide) (fun c9 => ?_) (fun c9 => ?_)
      · refine r_iconst (pc := 55) (0 : Int32) d_X10_settle_55 rfl ?_
        refine r_pick [1, 2, 3, 0] (ls' := [(0, .ref a0), (1, .int v1), (2, .int v2), (3, .int x7)]) rfl ?_
        exact s_X10_settle_56 hst h0 hd h_a0 x7 (0 : Int32) D
      · refine r_iconst (pc := 51) (1 : Int32) d_X10_settle_51 rfl ?_
        refine r_goto (pc := 52) 56 d_X10_settle_52 (by decide) ?_
        refine r_pick [1, 2, 3, 0] (ls' := [(0, .ref a0), (1, .int v1), (2, .int v2), (3, .int x7)]) rfl ?_
        exact s_X10_settle_56 hst h0 hd h_a0 x7 (1 : Int32) D
/-! CoveredSigns$Tangle.weave -/
theorem d_X10_weave_0 : decode (yB m_X10_weave) 0 = .ok (.aload_n 0, 1) := by decide +kernel
theorem d_X10_weave_1 : decode (yB m_X10_weave) 1 = .ok (.aload_n 1, 1) := by decide +kernel
theorem d_X10_weave_2 : decode (yB m_X10_weave) 2 = .ok (.getfield 25, 3) := by decide +kernel
theorem d_X10_weave_5 : decode (yB m_X10_weave) 5 = .ok (.bipush 12, 2) := by decide +kernel
theorem d_X10_weave_7 : decode (yB m_X10_weave) 7 = .ok (.invokestatic 31, 3) := by decide +kernel
theorem d_X10_weave_10 : decode (yB m_X10_weave) 10 = .ok (.putfield 37, 3) := by decide +kernel
theorem d_X10_weave_13 : decode (yB m_X10_weave) 13 = .ok (.aload_n 0, 1) := by decide +kernel
theorem d_X10_weave_14 : decode (yB m_X10_weave) 14 = .ok (.aload_n 1, 1) := by decide +kernel
theorem d_X10_weave_15 : decode (yB m_X10_weave) 15 = .ok (.invokevirtual 38, 3) := by decide +kernel
theorem d_X10_weave_18 : decode (yB m_X10_weave) 18 = .ok (.putfield 42, 3) := by decide +kernel
theorem d_X10_weave_21 : decode (yB m_X10_weave) 21 = .ok (.aload_n 0, 1) := by decide +kernel
theorem d_X10_weave_22 : decode (yB m_X10_weave) 22 = .ok (.iload_n 2, 1) := by decide +kernel
theorem d_X10_weave_23 : decode (yB m_X10_weave) 23 = .ok (.putfield 44, 3) := by decide +kernel
theorem d_X10_weave_26 : decode (yB m_X10_weave) 26 = .ok (.aload_n 0, 1) := by decide +kernel
theorem d_X10_weave_27 : decode (yB m_X10_weave) 27 = .ok (.iconst 0, 1) := by decide +kernel
theorem d_X10_weave_28 : decode (yB m_X10_weave) 28 = .ok (.putfield 47, 3) := by decide +kernel
theorem d_X10_weave_31 : decode (yB m_X10_weave) 31 = .ok (.iconst 0, 1) := by decide +kernel
theorem d_X10_weave_32 : decode (yB m_X10_weave) 32 = .ok (.istore_n 3, 1) := by decide +kernel
theorem d_X10_weave_33 : decode (yB m_X10_weave) 33 = .ok (.iload_n 3, 1) := by decide +kernel
theorem d_X10_weave_34 : decode (yB m_X10_weave) 34 = .ok (.aload_n 0, 1) := by decide +kernel
theorem d_X10_weave_35 : decode (yB m_X10_weave) 35 = .ok (.getfield 37, 3) := by decide +kernel
theorem d_X10_weave_38 : decode (yB m_X10_weave) 38 = .ok (.if_icmp .ge 33, 3) := by decide +kernel
theorem d_X10_weave_41 : decode (yB m_X10_weave) 41 = .ok (.iload_n 3, 1) := by decide +kernel
theorem d_X10_weave_42 : decode (yB m_X10_weave) 42 = .ok (.bipush 12, 2) := by decide +kernel
theorem d_X10_weave_44 : decode (yB m_X10_weave) 44 = .ok (.if_icmp .ge 27, 3) := by decide +kernel
theorem d_X10_weave_47 : decode (yB m_X10_weave) 47 = .ok (.aload_n 0, 1) := by decide +kernel
theorem d_X10_weave_48 : decode (yB m_X10_weave) 48 = .ok (.getfield 9, 3) := by decide +kernel
theorem d_X10_weave_51 : decode (yB m_X10_weave) 51 = .ok (.iload_n 3, 1) := by decide +kernel
theorem d_X10_weave_52 : decode (yB m_X10_weave) 52 = .ok (.aload_n 1, 1) := by decide +kernel
theorem d_X10_weave_53 : decode (yB m_X10_weave) 53 = .ok (.iload_n 3, 1) := by decide +kernel
theorem d_X10_weave_54 : decode (yB m_X10_weave) 54 = .ok (.invokevirtual 50, 3) := by decide +kernel
theorem d_X10_weave_57 : decode (yB m_X10_weave) 57 = .ok (.iastore, 1) := by decide +kernel
theorem d_X10_weave_58 : decode (yB m_X10_weave) 58 = .ok (.aload_n 0, 1) := by decide +kernel
theorem d_X10_weave_59 : decode (yB m_X10_weave) 59 = .ok (.getfield 15, 3) := by decide +kernel
theorem d_X10_weave_62 : decode (yB m_X10_weave) 62 = .ok (.iload_n 3, 1) := by decide +kernel
theorem d_X10_weave_63 : decode (yB m_X10_weave) 63 = .ok (.iconst 0, 1) := by decide +kernel
theorem d_X10_weave_64 : decode (yB m_X10_weave) 64 = .ok (.iastore, 1) := by decide +kernel
theorem d_X10_weave_65 : decode (yB m_X10_weave) 65 = .ok (.iinc 3 1, 3) := by decide +kernel
theorem d_X10_weave_68 : decode (yB m_X10_weave) 68 = .ok (.goto (-35), 3) := by decide +kernel
theorem d_X10_weave_71 : decode (yB m_X10_weave) 71 = .ok (.iconst 0, 1) := by decide +kernel
theorem d_X10_weave_72 : decode (yB m_X10_weave) 72 = .ok (.istore_n 3, 1) := by decide +kernel
theorem d_X10_weave_73 : decode (yB m_X10_weave) 73 = .ok (.iload_n 3, 1) := by decide +kernel
theorem d_X10_weave_74 : decode (yB m_X10_weave) 74 = .ok (.aload_n 0, 1) := by decide +kernel
theorem d_X10_weave_75 : decode (yB m_X10_weave) 75 = .ok (.getfield 37, 3) := by decide +kernel
theorem d_X10_weave_78 : decode (yB m_X10_weave) 78 = .ok (.if_icmp .ge 36, 3) := by decide +kernel
theorem d_X10_weave_81 : decode (yB m_X10_weave) 81 = .ok (.iload_n 3, 1) := by decide +kernel
theorem d_X10_weave_82 : decode (yB m_X10_weave) 82 = .ok (.iconst 1, 1) := by decide +kernel
theorem d_X10_weave_83 : decode (yB m_X10_weave) 83 = .ok (.iadd, 1) := by decide +kernel
theorem d_X10_weave_84 : decode (yB m_X10_weave) 84 = .ok (.istore 4, 2) := by decide +kernel
theorem d_X10_weave_86 : decode (yB m_X10_weave) 86 = .ok (.iload 4, 2) := by decide +kernel
theorem d_X10_weave_88 : decode (yB m_X10_weave) 88 = .ok (.aload_n 0, 1) := by decide +kernel
theorem d_X10_weave_89 : decode (yB m_X10_weave) 89 = .ok (.getfield 37, 3) := by decide +kernel
theorem d_X10_weave_92 : decode (yB m_X10_weave) 92 = .ok (.if_icmp .ge 16, 3) := by decide +kernel
theorem d_X10_weave_95 : decode (yB m_X10_weave) 95 = .ok (.aload_n 0, 1) := by decide +kernel
theorem d_X10_weave_96 : decode (yB m_X10_weave) 96 = .ok (.iload_n 3, 1) := by decide +kernel
theorem d_X10_weave_97 : decode (yB m_X10_weave) 97 = .ok (.iload 4, 2) := by decide +kernel
theorem d_X10_weave_99 : decode (yB m_X10_weave) 99 = .ok (.invokevirtual 54, 3) := by decide +kernel
theorem d_X10_weave_102 : decode (yB m_X10_weave) 102 = .ok (.iinc 4 1, 3) := by decide +kernel
theorem d_X10_weave_105 : decode (yB m_X10_weave) 105 = .ok (.goto (-19), 3) := by decide +kernel
theorem d_X10_weave_108 : decode (yB m_X10_weave) 108 = .ok (.iinc 3 1, 3) := by decide +kernel
theorem d_X10_weave_111 : decode (yB m_X10_weave) 111 = .ok (.goto (-38), 3) := by decide +kernel
theorem d_X10_weave_114 : decode (yB m_X10_weave) 114 = .ok (.return_, 1) := by decide +kernel
def fn_X10_weave_86 (a0 : Nat) (a1 : Nat) (v2 : Int32) (k73 : Int32 → zD → Option zD) : Nat → Int32 → Int32 → zD → Option zD
  | 0, _, _, _ => none
  | n + 1, v3, v4, D => (if (gI D a0 4) ≤ v4 then ((k73 (v3 + (1 : Int32)) D)) else ((fn_X10_settle a0 v3 v4 D).bind fun D10 => ((fn_X10_weave_86 a0 a1 v2 k73 n) v3 (v4 + (1 : Int32)) D10)))
def fn_X10_weave_73 (a0 : Nat) (a1 : Nat) (v2 : Int32) : Nat → Int32 → zD → Option zD
  | 0, _, _ => none
  | n + 1, v3, D => (if (gI D a0 4) ≤ v3 then ((some D)) else (zlet (v3 + (1 : Int32)) fun x8 => (fn_X10_weave_86 a0 a1 v2 (fn_X10_weave_73 a0 a1 v2 n) zFU v3 x8 D)))
def fn_X10_weave_33 (a0 : Nat) (a1 : Nat) (v2 : Int32) : Nat → Int32 → zD → Option zD
  | 0, _, _ => none
  | n + 1, v3, D => (if (gI D a0 4) ≤ v3 then ((fn_X10_weave_73 a0 a1 v2 zFU (0 : Int32) D)) else ((if (12 : Int32) ≤ v3 then ((fn_X10_weave_73 a0 a1 v2 zFU (0 : Int32) D)) else ((fn_X0_paintOf a1 v3 D).bind fun x12 => zck v3 12 <| zlet (sI D (a0 + 1) v3.toNatClampNeg x12) fun D14 => zck v3 12 <| zlet (sI D14 (a0 + 2) v3.toNatClampNeg (0 : Int32)) fun D16 => ((fn_X10_weave_33 a0 a1 v2 n) (v3 + (1 : Int32)) D16)))))
def fn_X10_weave (a0 : Nat) (a1 : Nat) (v2 : Int32) (D : zD) : Option zD := zlet (sI D a0 4 (zmn (gI D a1 2) (12 : Int32))) fun D1 => (fn_X0_cells a1 D1).bind fun x2 => zlet (sI D1 a0 5 x2) fun D3 => zlet (sI D3 a0 6 v2) fun D4 => zlet (sI D4 a0 7 (0 : Int32)) fun D5 => (fn_X10_weave_33 a0 a1 v2 zFU (0 : Int32) D5)
theorem s_X10_weave_86 {X : zX} {Sh : zSh} {d : Nat} (hst : (zl X).stackTraces = false) (h0 : zSh0 Sh) (hd : 3 ≤ d) {a0 : Nat} {a1 : Nat} {v2 : Int32} (h_a0 : a0 ∈ zI_10) (h_a1 : a1 ∈ zI_0) (k73 : Int32 → zD → Option zD) (hk73 : ∀ (v3 : Int32) (D : zD) , Rn X m_X10_weave (d + 1) 73 [(0, .ref a0), (3, .int v3)] [] (Sh, D) ((oV Sh) (k73 v3 D))) : ∀ (n : Nat) (v3 : Int32) (v4 : Int32) (D : zD) , Rn X m_X10_weave (d + 1) 86 [(0, .ref a0), (3, .int v3), (4, .int v4)] [] (Sh, D) ((oV Sh) (fn_X10_weave_86 a0 a1 v2 k73 n v3 v4 D)) := by
  intro n
  induction n with
  | zero => intro v3 v4 D; exact Rn_none rfl
  | succ n hk86 =>
    intro v3 v4 D
    rw [fn_X10_weave_86]
    refine r_iload (pc := 86) 2 d_X10_weave_86 rfl ?_
    refine r_aload_n (pc := 88) 0 d_X10_weave_88 rfl rfl ?_
    refine q_gI (pc := 89) g_X10_37 (LK_10 h0 h_a0) rfl d_X10_weave_89 ?_
    refine r_icmp_ge (f := (oV Sh)) (pc := 92) 108 d_X10_weave_92 (by decide) (fun c9 => ?_) (fun c9 => ?_)
    · refine r_iinc (pc := 108) ((v3 + (1 : Int32))) 1 (ls' := [(3, .int (v3 + (1 : Int32))), (0, .ref a0), (4, .int v4)]) d_X10_weave_108 rfl rfl (Nat.le_of_ble_eq_true rfl) rfl ?_
      refine r_goto (pc := 111) 73 d_X10_weave_111 (by decide) ?_
      refine r_pick [1, 0] (ls' := [(0, .ref a0), (3, .int (v3 + (1 : Int32)))]) rfl ?_
      exact hk73 (v3 + (1 : Int32)) D 
    · refine r_aload_n (pc := 95) 0 d_X10_weave_95 rfl rfl ?_
      refine r_iload_n (pc := 96) 1 d_X10_weave_96 rfl rfl ?_
      refine r_iload (pc := 97) 2 d_X10_weave_97 rfl ?_
      refine q_cV (f := (oV Sh)) (av := [.ref a0, .int v3, .int v4]) (st := []) (z_runV ck_X10_settle rfl ml_X10_54 ci_X10_settle cv_X10_settle (LK_10 h0 h_a0) (ci := 10) rfl rfl (Nat.le_of_ble_eq_true rfl) d_X10_weave_99) (s_X10_settle hst h0 (by omega) h_a0) kp_V (fun D10 _ => ?_)
      refine r_iinc (pc := 102) ((v4 + (1 : Int32))) 2 (ls' := [(4, .int (v4 + (1 : Int32))), (0, .ref a0), (3, .int v3)]) d_X10_weave_102 rfl rfl (Nat.le_of_ble_eq_true rfl) rfl ?_
      refine r_goto (pc := 105) 86 d_X10_weave_105 (by decide) ?_
      refine r_pick [1, 2, 0] (ls' := [(0, .ref a0), (3, .int v3), (4, .int (v4 + (1 : Int32)))]) rfl ?_
      exact hk86 v3 (v4 + (1 : Int32)) D10 
theorem s_X10_weave_73 {X : zX} {Sh : zSh} {d : Nat} (hst : (zl X).stackTraces = false) (h0 : zSh0 Sh) (hd : 3 ≤ d) {a0 : Nat} {a1 : Nat} {v2 : Int32} (h_a0 : a0 ∈ zI_10) (h_a1 : a1 ∈ zI_0) : ∀ (n : Nat) (v3 : Int32) (D : zD) , Rn X m_X10_weave (d + 1) 73 [(0, .ref a0), (3, .int v3)] [] (Sh, D) ((oV Sh) (fn_X10_weave_73 a0 a1 v2 n v3 D)) := by
  intro n
  induction n with
  | zero => intro v3 D; exact Rn_none rfl
  | succ n hk73 =>
    intro v3 D
    rw [fn_X10_weave_73]
    refine r_iload_n (pc := 73) 1 d_X10_weave_73 rfl rfl ?_
    refine r_aload_n (pc := 74) 0 d_X10_weave_74 rfl rfl ?_
    refine q_gI (pc := 75) g_X10_37 (LK_10 h0 h_a0) rfl d_X10_weave_75 ?_
    refine r_icmp_ge (f := (oV Sh)) (pc := 78) 114 d_X10_weave_78 (by decide) (fun c7 => ?_) (fun c7 => ?_)
    · exact r_vret (pc := 114) rfl d_X10_weave_114
    · refine r_iload_n (pc := 81) 1 d_X10_weave_81 rfl rfl ?_
      refine r_iconst (pc := 82) (1 : Int32) d_X10_weave_82 rfl ?_
      refine r_iadd (pc := 83) d_X10_weave_83 ?_
      refine r_leti (f := (oV Sh)) (fun x8 => ?_)
      refine r_istore (pc := 84) (ls' := [(4, .int x8), (0, .ref a0), (3, .int v3)]) d_X10_weave_84 (Nat.le_of_ble_eq_true rfl) rfl ?_
      refine r_pick [1, 2, 0] (ls' := [(0, .ref a0), (3, .int v3), (4, .int x8)]) rfl ?_
      exact s_X10_weave_86 hst h0 hd h_a0 h_a1 (fn_X10_weave_73 a0 a1 v2 n) hk73 zFU  v3 x8 D
theorem s_X10_weave_33 {X : zX} {Sh : zSh} {d : Nat} (hst : (zl X).stackTraces = false) (h0 : zSh0 Sh) (hd : 3 ≤ d) {a0 : Nat} {a1 : Nat} {v2 : Int32} (h_a0 : a0 ∈ zI_10) (h_a1 : a1 ∈ zI_0) : ∀ (n : Nat) (v3 : Int32) (D : zD) , Rn X m_X10_weave (d + 1) 33 [(0, .ref a0), (1, .ref a1), (3, .int v3)] [] (Sh, D) ((oV Sh) (fn_X10_weave_33 a0 a1 v2 n v3 D)) := by
  intro n
  induction n with
  | zero => intro v3 D; exact Rn_none rfl
  | succ n hk33 =>
    intro v3 D
    rw [fn_X10_weave_33]
    refine r_iload_n (pc := 33) 2 d_X10_weave_33 rfl rfl ?_
    refine r_aload_n (pc := 34) 0 d_X10_weave_34 rfl rfl ?_
    refine q_gI (pc := 35) g_X10_37 (LK_10 h0 h_a0) rfl d_X10_weave_35 ?_
    refine r_icmp_ge (f := (oV Sh)) (pc := 38) 71 d_X10_weave_38 (by decide) (fun c6 => ?_) (fun c6 => ?_)
    · refine r_iconst (pc := 71) (0 : Int32) d_X10_weave_71 rfl ?_
      refine r_istore_n (pc := 72) (ls' := [(3, .int (0 : Int32)), (0, .ref a0), (1, .ref a1)]) d_X10_weave_72 rfl (Nat.le_of_ble_eq_true rfl) rfl ?_
      refine r_pick [1, 0] (ls' := [(0, .ref a0), (3, .int (0 : Int32))]) rfl ?_
      exact s_X10_weave_73 hst h0 hd h_a0 h_a1 zFU  (0 : Int32) D
    · refine r_iload_n (pc := 41) 2 d_X10_weave_41 rfl rfl ?_
      refine r_bipush (pc := 42) (12 : Int32) d_X10_weave_42 rfl ?_
      refine r_icmp_ge (f := (oV Sh)) (pc := 44) 71 d_X10_weave_44 (by decide) (fun c11 => ?_) (fun c11 => ?_)
      · refine r_iconst (pc := 71) (0 : Int32) d_X10_weave_71 rfl ?_
        refine r_istore_n (pc := 72) (ls' := [(3, .int (0 : Int32)), (0, .ref a0), (1, .ref a1)]) d_X10_weave_72 rfl (Nat.le_of_ble_eq_true rfl) rfl ?_
        refine r_pick [1, 0] (ls' := [(0, .ref a0), (3, .int (0 : Int32))]) rfl ?_
        exact s_X10_weave_73 hst h0 hd h_a0 h_a1 zFU  (0 : Int32) D
      · refine r_aload_n (pc := 47) 0 d_X10_weave_47 rfl rfl ?_
        refine r_getR (pc := 48) g_X10_9 (LK_10 h0 h_a0) rfl (LR_10_1 h0 h_a0) d_X10_weave_48 ?_
        refine r_iload_n (pc := 51) 2 d_X10_weave_51 rfl rfl ?_
        refine r_aload_n (pc := 52) 1 d_X10_weave_52 rfl rfl ?_
        refine r_iload_n (pc := 53) 2 d_X10_weave_53 rfl rfl ?_
        refine q_cP (f := (oV Sh)) (av := [.ref a1, .int v3]) (st := [.int v3, .ref (a0 + 1)]) (z_runV ck_X0_paintOf rfl ml_X10_50 ci_X0_paintOf cv_X0_paintOf (LK_0 h0 h_a1) (ci := 0) rfl rfl (Nat.le_of_ble_eq_true rfl) d_X10_weave_54) (s_X0_paintOf hst h0 (by omega) h_a1) kp_V (fun x12 _ => ?_)
        refine r_ck (f := (oV Sh)) rfl (fun hc13 => ?_)
        refine q_iast (pc := 57) (j := v3.toNatClampNeg) (LA_10_1 h0 h_a0) hc13 rfl  d_X10_weave_57 ?_
        refine r_letD (f := (oV Sh)) (fun D14 => ?_)
        refine r_aload_n (pc := 58) 0 d_X10_weave_58 rfl rfl ?_
        refine r_getR (pc := 59) g_X10_15 (LK_10 h0 h_a0) rfl (LR_10_2 h0 h_a0) d_X10_weave_59 ?_
        refine r_iload_n (pc := 62) 2 d_X10_weave_62 rfl rfl ?_
        refine r_iconst (pc := 63) (0 : Int32) d_X10_weave_63 rfl ?_
        refine r_ck (f := (oV Sh)) rfl (fun hc15 => ?_)
        refine q_iast (pc := 64) (j := v3.toNatClampNeg) (LA_10_2 h0 h_a0) hc15 rfl  d_X10_weave_64 ?_
        refine r_letD (f := (oV Sh)) (fun D16 => ?_)
        refine r_iinc (pc := 65) ((v3 + (1 : Int32))) 2 (ls' := [(3, .int (v3 + (1 : Int32))), (0, .ref a0), (1, .ref a1)]) d_X10_weave_65 rfl rfl (Nat.le_of_ble_eq_true rfl) rfl ?_
        refine r_goto (pc := 68) 33 d_X10_weave_68 (by decide) ?_
        refine r_pick [1, 2, 0] (ls' := [(0, .ref a0), (1, .ref a1), (3, .int (v3 + (1 : Int32)))]) rfl ?_
        exact hk33 (v3 + (1 : Int32)) D16 
theorem s_X10_weave {X : zX} {Sh : zSh} {d : Nat} (hst : (zl X).stackTraces = false) (h0 : zSh0 Sh) (hd : 4 ≤ d) {a0 : Nat} {a1 : Nat} {v2 : Int32} (h_a0 : a0 ∈ zI_10) (h_a1 : a1 ∈ zI_0) {D : zD} : Sd X m_X10_weave d [.ref a0, .ref a1, .int v2] (Sh, D) ((oV Sh) (fn_X10_weave a0 a1 v2 D)) := by
  obtain ⟨d, rfl⟩ : ∃ e, d = e + 1 := ⟨d - 1, by omega⟩
  replace hd : 3 ≤ d := by omega
  refine z_body ck_X10_weave rfl (Nat.le_of_ble_eq_true rfl) rfl hst ?_
  rw [fn_X10_weave]
  show Rn X m_X10_weave (d + 1) 0 [(0, .ref a0), (1, .ref a1), (2, .int v2)] [] (Sh, D) _
  refine r_aload_n (pc := 0) 0 d_X10_weave_0 rfl rfl ?_
  refine r_aload_n (pc := 1) 1 d_X10_weave_1 rfl rfl ?_
  refine q_gIn (pc := 2) g_X10_25 (LK_0 h0 h_a1) rfl d_X10_weave_2 ?_
  refine r_bipush (pc := 5) (12 : Int32) d_X10_weave_5 rfl ?_
  refine r_mmin (pc := 7) ml_X10_31 (by omega) (Nat.le_of_ble_eq_true rfl) d_X10_weave_7 ?_
  refine r_putI (pc := 10) p_X10_37 (LK_10 h0 h_a0) rfl (Or.inl rfl) d_X10_weave_10 ?_
  refine r_letD (f := (oV Sh)) (fun D1 => ?_)
  refine r_aload_n (pc := 13) 0 d_X10_weave_13 rfl rfl ?_
  refine r_aload_n (pc := 14) 1 d_X10_weave_14 rfl rfl ?_
  refine q_cP (f := (oV Sh)) (av := [.ref a1]) (st := [.ref a0]) (z_runV ck_X0_cells rfl ml_X10_38 ci_X0_cells cv_X0_cells (LK_0 h0 h_a1) (ci := 0) rfl rfl (Nat.le_of_ble_eq_true rfl) d_X10_weave_15) (s_X0_cells hst h0 (by omega) h_a1) kp_V (fun x2 _ => ?_)
  refine r_putI (pc := 18) p_X10_42 (LK_10 h0 h_a0) rfl (Or.inl rfl) d_X10_weave_18 ?_
  refine r_letD (f := (oV Sh)) (fun D3 => ?_)
  refine r_aload_n (pc := 21) 0 d_X10_weave_21 rfl rfl ?_
  refine r_iload_n (pc := 22) 2 d_X10_weave_22 rfl rfl ?_
  refine r_putI (pc := 23) p_X10_44 (LK_10 h0 h_a0) rfl (Or.inl rfl) d_X10_weave_23 ?_
  refine r_letD (f := (oV Sh)) (fun D4 => ?_)
  refine r_aload_n (pc := 26) 0 d_X10_weave_26 rfl rfl ?_
  refine r_iconst (pc := 27) (0 : Int32) d_X10_weave_27 rfl ?_
  refine r_putI (pc := 28) p_X10_47 (LK_10 h0 h_a0) rfl (Or.inl rfl) d_X10_weave_28 ?_
  refine r_letD (f := (oV Sh)) (fun D5 => ?_)
  refine r_iconst (pc := 31) (0 : Int32) d_X10_weave_31 rfl ?_
  refine r_istore_n (pc := 32) (ls' := [(3, .int (0 : Int32)), (0, .ref a0), (1, .ref a1), (2, .int v2)]) d_X10_weave_32 rfl (Nat.le_of_ble_eq_true rfl) rfl ?_
  refine r_pick [1, 2, 0] (ls' := [(0, .ref a0), (1, .ref a1), (3, .int (0 : Int32))]) rfl ?_
  exact s_X10_weave_33 hst h0 hd h_a0 h_a1 zFU  (0 : Int32) D5
/-! CoveredSigns$Tangle.copyFrom -/
theorem d_X10_copyFrom_0 : decode (yB m_X10_copyFrom) 0 = .ok (.aload_n 1, 1) := by decide +kernel
theorem d_X10_copyFrom_1 : decode (yB m_X10_copyFrom) 1 = .ok (.ifnonnull 4, 3) := by decide +kernel
theorem d_X10_copyFrom_4 : decode (yB m_X10_copyFrom) 4 = .ok (.return_, 1) := by decide +kernel
theorem d_X10_copyFrom_5 : decode (yB m_X10_copyFrom) 5 = .ok (.aload_n 0, 1) := by decide +kernel
theorem d_X10_copyFrom_6 : decode (yB m_X10_copyFrom) 6 = .ok (.aload_n 1, 1) := by decide +kernel
theorem d_X10_copyFrom_7 : decode (yB m_X10_copyFrom) 7 = .ok (.getfield 37, 3) := by decide +kernel
theorem d_X10_copyFrom_10 : decode (yB m_X10_copyFrom) 10 = .ok (.putfield 37, 3) := by decide +kernel
theorem d_X10_copyFrom_13 : decode (yB m_X10_copyFrom) 13 = .ok (.aload_n 0, 1) := by decide +kernel
theorem d_X10_copyFrom_14 : decode (yB m_X10_copyFrom) 14 = .ok (.aload_n 1, 1) := by decide +kernel
theorem d_X10_copyFrom_15 : decode (yB m_X10_copyFrom) 15 = .ok (.getfield 42, 3) := by decide +kernel
theorem d_X10_copyFrom_18 : decode (yB m_X10_copyFrom) 18 = .ok (.putfield 42, 3) := by decide +kernel
theorem d_X10_copyFrom_21 : decode (yB m_X10_copyFrom) 21 = .ok (.aload_n 0, 1) := by decide +kernel
theorem d_X10_copyFrom_22 : decode (yB m_X10_copyFrom) 22 = .ok (.aload_n 1, 1) := by decide +kernel
theorem d_X10_copyFrom_23 : decode (yB m_X10_copyFrom) 23 = .ok (.getfield 44, 3) := by decide +kernel
theorem d_X10_copyFrom_26 : decode (yB m_X10_copyFrom) 26 = .ok (.putfield 44, 3) := by decide +kernel
theorem d_X10_copyFrom_29 : decode (yB m_X10_copyFrom) 29 = .ok (.aload_n 0, 1) := by decide +kernel
theorem d_X10_copyFrom_30 : decode (yB m_X10_copyFrom) 30 = .ok (.aload_n 1, 1) := by decide +kernel
theorem d_X10_copyFrom_31 : decode (yB m_X10_copyFrom) 31 = .ok (.getfield 47, 3) := by decide +kernel
theorem d_X10_copyFrom_34 : decode (yB m_X10_copyFrom) 34 = .ok (.putfield 47, 3) := by decide +kernel
theorem d_X10_copyFrom_37 : decode (yB m_X10_copyFrom) 37 = .ok (.aload_n 1, 1) := by decide +kernel
theorem d_X10_copyFrom_38 : decode (yB m_X10_copyFrom) 38 = .ok (.getfield 9, 3) := by decide +kernel
theorem d_X10_copyFrom_41 : decode (yB m_X10_copyFrom) 41 = .ok (.iconst 0, 1) := by decide +kernel
theorem d_X10_copyFrom_42 : decode (yB m_X10_copyFrom) 42 = .ok (.aload_n 0, 1) := by decide +kernel
theorem d_X10_copyFrom_43 : decode (yB m_X10_copyFrom) 43 = .ok (.getfield 9, 3) := by decide +kernel
theorem d_X10_copyFrom_46 : decode (yB m_X10_copyFrom) 46 = .ok (.iconst 0, 1) := by decide +kernel
theorem d_X10_copyFrom_47 : decode (yB m_X10_copyFrom) 47 = .ok (.bipush 12, 2) := by decide +kernel
theorem d_X10_copyFrom_49 : decode (yB m_X10_copyFrom) 49 = .ok (.invokestatic 58, 3) := by decide +kernel
theorem d_X10_copyFrom_52 : decode (yB m_X10_copyFrom) 52 = .ok (.aload_n 1, 1) := by decide +kernel
theorem d_X10_copyFrom_53 : decode (yB m_X10_copyFrom) 53 = .ok (.getfield 15, 3) := by decide +kernel
theorem d_X10_copyFrom_56 : decode (yB m_X10_copyFrom) 56 = .ok (.iconst 0, 1) := by decide +kernel
theorem d_X10_copyFrom_57 : decode (yB m_X10_copyFrom) 57 = .ok (.aload_n 0, 1) := by decide +kernel
theorem d_X10_copyFrom_58 : decode (yB m_X10_copyFrom) 58 = .ok (.getfield 15, 3) := by decide +kernel
theorem d_X10_copyFrom_61 : decode (yB m_X10_copyFrom) 61 = .ok (.iconst 0, 1) := by decide +kernel
theorem d_X10_copyFrom_62 : decode (yB m_X10_copyFrom) 62 = .ok (.bipush 12, 2) := by decide +kernel
theorem d_X10_copyFrom_64 : decode (yB m_X10_copyFrom) 64 = .ok (.invokestatic 58, 3) := by decide +kernel
theorem d_X10_copyFrom_67 : decode (yB m_X10_copyFrom) 67 = .ok (.aload_n 1, 1) := by decide +kernel
theorem d_X10_copyFrom_68 : decode (yB m_X10_copyFrom) 68 = .ok (.getfield 18, 3) := by decide +kernel
theorem d_X10_copyFrom_71 : decode (yB m_X10_copyFrom) 71 = .ok (.iconst 0, 1) := by decide +kernel
theorem d_X10_copyFrom_72 : decode (yB m_X10_copyFrom) 72 = .ok (.aload_n 0, 1) := by decide +kernel
theorem d_X10_copyFrom_73 : decode (yB m_X10_copyFrom) 73 = .ok (.getfield 18, 3) := by decide +kernel
theorem d_X10_copyFrom_76 : decode (yB m_X10_copyFrom) 76 = .ok (.iconst 0, 1) := by decide +kernel
theorem d_X10_copyFrom_77 : decode (yB m_X10_copyFrom) 77 = .ok (.sipush 144, 3) := by decide +kernel
theorem d_X10_copyFrom_80 : decode (yB m_X10_copyFrom) 80 = .ok (.invokestatic 58, 3) := by decide +kernel
theorem d_X10_copyFrom_83 : decode (yB m_X10_copyFrom) 83 = .ok (.return_, 1) := by decide +kernel
def fn_X10_copyFrom (a0 : Nat) (a1 : Nat) (D : zD) : Option zD := zlet (sI D a0 4 (gI D a1 4)) fun D1 => zlet (sI D1 a0 5 (gI D1 a1 5)) fun D2 => zlet (sI D2 a0 6 (gI D2 a1 6)) fun D3 => zlet (sI D3 a0 7 (gI D3 a1 7)) fun D4 => zcp (0 : Int32) (0 : Int32) (12 : Int32) 12 12 <| zlet (sC D4 (a1 + 1) (a0 + 1) (0 : Int32).toNatClampNeg (0 : Int32).toNatClampNeg (12 : Int32).toNatClampNeg) fun D6 => zcp (0 : Int32) (0 : Int32) (12 : Int32) 12 12 <| zlet (sC D6 (a1 + 2) (a0 + 2) (0 : Int32).toNatClampNeg (0 : Int32).toNatClampNeg (12 : Int32).toNatClampNeg) fun D8 => zcp (0 : Int32) (0 : Int32) (144 : Int32) 144 144 <| zlet (sC D8 (a1 + 3) (a0 + 3) (0 : Int32).toNatClampNeg (0 : Int32).toNatClampNeg (144 : Int32).toNatClampNeg) fun D10 => (some D10)
theorem s_X10_copyFrom {X : zX} {Sh : zSh} {d : Nat} (hst : (zl X).stackTraces = false) (h0 : zSh0 Sh) (hd : 5 ≤ d) {a0 : Nat} {a1 : Nat} (h_a0 : a0 ∈ zI_10) (h_a1 : a1 ∈ zI_10) {D : zD} : Sd X m_X10_copyFrom d [.ref a0, .ref a1] (Sh, D) ((oV Sh) (fn_X10_copyFrom a0 a1 D)) := by
  obtain ⟨d, rfl⟩ : ∃ e, d = e + 1 := ⟨d - 1, by omega⟩
  replace hd : 4 ≤ d := by omega
  refine z_body ck_X10_copyFrom rfl (Nat.le_of_ble_eq_true rfl) rfl hst ?_
  rw [fn_X10_copyFrom]
  show Rn X m_X10_copyFrom (d + 1) 0 [(0, .ref a0), (1, .ref a1)] [] (Sh, D) _
  refine r_aload_n (pc := 0) 1 d_X10_copyFrom_0 rfl rfl ?_
  refine r_nonnull (pc := 1) 5 d_X10_copyFrom_1 (by decide) ?_
  refine r_aload_n (pc := 5) 0 d_X10_copyFrom_5 rfl rfl ?_
  refine r_aload_n (pc := 6) 1 d_X10_copyFrom_6 rfl rfl ?_
  refine q_gI (pc := 7) g_X10_37 (LK_10 h0 h_a1) rfl d_X10_copyFrom_7 ?_
  refine r_putI (pc := 10) p_X10_37 (LK_10 h0 h_a0) rfl (Or.inl rfl) d_X10_copyFrom_10 ?_
  refine r_letD (f := (oV Sh)) (fun D1 => ?_)
  refine r_aload_n (pc := 13) 0 d_X10_copyFrom_13 rfl rfl ?_
  refine r_aload_n (pc := 14) 1 d_X10_copyFrom_14 rfl rfl ?_
  refine q_gI (pc := 15) g_X10_42 (LK_10 h0 h_a1) rfl d_X10_copyFrom_15 ?_
  refine r_putI (pc := 18) p_X10_42 (LK_10 h0 h_a0) rfl (Or.inl rfl) d_X10_copyFrom_18 ?_
  refine r_letD (f := (oV Sh)) (fun D2 => ?_)
  refine r_aload_n (pc := 21) 0 d_X10_copyFrom_21 rfl rfl ?_
  refine r_aload_n (pc := 22) 1 d_X10_copyFrom_22 rfl rfl ?_
  refine q_gI (pc := 23) g_X10_44 (LK_10 h0 h_a1) rfl d_X10_copyFrom_23 ?_
  refine r_putI (pc := 26) p_X10_44 (LK_10 h0 h_a0) rfl (Or.inl rfl) d_X10_copyFrom_26 ?_
  refine r_letD (f := (oV Sh)) (fun D3 => ?_)
  refine r_aload_n (pc := 29) 0 d_X10_copyFrom_29 rfl rfl ?_
  refine r_aload_n (pc := 30) 1 d_X10_copyFrom_30 rfl rfl ?_
  refine q_gI (pc := 31) g_X10_47 (LK_10 h0 h_a1) rfl d_X10_copyFrom_31 ?_
  refine r_putI (pc := 34) p_X10_47 (LK_10 h0 h_a0) rfl (Or.inl rfl) d_X10_copyFrom_34 ?_
  refine r_letD (f := (oV Sh)) (fun D4 => ?_)
  refine r_aload_n (pc := 37) 1 d_X10_copyFrom_37 rfl rfl ?_
  refine r_getR (pc := 38) g_X10_9 (LK_10 h0 h_a1) rfl (LR_10_1 h0 h_a1) d_X10_copyFrom_38 ?_
  refine r_iconst (pc := 41) (0 : Int32) d_X10_copyFrom_41 rfl ?_
  refine r_aload_n (pc := 42) 0 d_X10_copyFrom_42 rfl rfl ?_
  refine r_getR (pc := 43) g_X10_9 (LK_10 h0 h_a0) rfl (LR_10_1 h0 h_a0) d_X10_copyFrom_43 ?_
  refine r_iconst (pc := 46) (0 : Int32) d_X10_copyFrom_46 rfl ?_
  refine r_bipush (pc := 47) (12 : Int32) d_X10_copyFrom_47 rfl ?_
  refine r_cp (f := (oV Sh)) rfl (fun hc5 => ?_)
  refine q_acopy (pc := 49) ml_X10_58 (LA_10_1 h0 h_a1) (LA_10_1 h0 h_a0) h0.2.2 hc5 (by omega) (Nat.le_of_ble_eq_true rfl) d_X10_copyFrom_49 ?_
  refine r_letD (f := (oV Sh)) (fun D6 => ?_)
  refine r_aload_n (pc := 52) 1 d_X10_copyFrom_52 rfl rfl ?_
  refine r_getR (pc := 53) g_X10_15 (LK_10 h0 h_a1) rfl (LR_10_2 h0 h_a1) d_X10_copyFrom_53 ?_
  refine r_iconst (pc := 56) (0 : Int32) d_X10_copyFrom_56 rfl ?_
  refine r_aload_n (pc := 57) 0 d_X10_copyFrom_57 rfl rfl ?_
  refine r_getR (pc := 58) g_X10_15 (LK_10 h0 h_a0) rfl (LR_10_2 h0 h_a0) d_X10_copyFrom_58 ?_
  refine r_iconst (pc := 61) (0 : Int32) d_X10_copyFrom_61 rfl ?_
  refine r_bipush (pc := 62) (12 : Int32) d_X10_copyFrom_62 rfl ?_
  refine r_cp (f := (oV Sh)) rfl (fun hc7 => ?_)
  refine q_acopy (pc := 64) ml_X10_58 (LA_10_2 h0 h_a1) (LA_10_2 h0 h_a0) h0.2.2 hc7 (by omega) (Nat.le_of_ble_eq_true rfl) d_X10_copyFrom_64 ?_
  refine r_letD (f := (oV Sh)) (fun D8 => ?_)
  refine r_aload_n (pc := 67) 1 d_X10_copyFrom_67 rfl rfl ?_
  refine r_getR (pc := 68) g_X10_18 (LK_10 h0 h_a1) rfl (LR_10_3 h0 h_a1) d_X10_copyFrom_68 ?_
  refine r_iconst (pc := 71) (0 : Int32) d_X10_copyFrom_71 rfl ?_
  refine r_aload_n (pc := 72) 0 d_X10_copyFrom_72 rfl rfl ?_
  refine r_getR (pc := 73) g_X10_18 (LK_10 h0 h_a0) rfl (LR_10_3 h0 h_a0) d_X10_copyFrom_73 ?_
  refine r_iconst (pc := 76) (0 : Int32) d_X10_copyFrom_76 rfl ?_
  refine r_sipush (pc := 77) (144 : Int32) d_X10_copyFrom_77 rfl ?_
  refine r_cp (f := (oV Sh)) rfl (fun hc9 => ?_)
  refine q_acopy (pc := 80) ml_X10_58 (LA_10_3 h0 h_a1) (LA_10_3 h0 h_a0) h0.2.2 hc9 (by omega) (Nat.le_of_ble_eq_true rfl) d_X10_copyFrom_80 ?_
  refine r_letD (f := (oV Sh)) (fun D10 => ?_)
  exact r_vret (pc := 83) rfl d_X10_copyFrom_83
/-! CoveredSigns$Tangle.flip -/
theorem d_X10_flip_0 : decode (yB m_X10_flip) 0 = .ok (.aload_n 0, 1) := by decide +kernel
theorem d_X10_flip_1 : decode (yB m_X10_flip) 1 = .ok (.iload_n 1, 1) := by decide +kernel
theorem d_X10_flip_2 : decode (yB m_X10_flip) 2 = .ok (.invokevirtual 64, 3) := by decide +kernel
theorem d_X10_flip_5 : decode (yB m_X10_flip) 5 = .ok (.ifCond .ne 4, 3) := by decide +kernel
theorem d_X10_flip_8 : decode (yB m_X10_flip) 8 = .ok (.return_, 1) := by decide +kernel
theorem d_X10_flip_9 : decode (yB m_X10_flip) 9 = .ok (.aload_n 0, 1) := by decide +kernel
theorem d_X10_flip_10 : decode (yB m_X10_flip) 10 = .ok (.getfield 9, 3) := by decide +kernel
theorem d_X10_flip_13 : decode (yB m_X10_flip) 13 = .ok (.iload_n 1, 1) := by decide +kernel
theorem d_X10_flip_14 : decode (yB m_X10_flip) 14 = .ok (.dup2, 1) := by decide +kernel
theorem d_X10_flip_15 : decode (yB m_X10_flip) 15 = .ok (.iaload, 1) := by decide +kernel
theorem d_X10_flip_16 : decode (yB m_X10_flip) 16 = .ok (.iconst 1, 1) := by decide +kernel
theorem d_X10_flip_17 : decode (yB m_X10_flip) 17 = .ok (.iload_n 2, 1) := by decide +kernel
theorem d_X10_flip_18 : decode (yB m_X10_flip) 18 = .ok (.ishl, 1) := by decide +kernel
theorem d_X10_flip_19 : decode (yB m_X10_flip) 19 = .ok (.ixor, 1) := by decide +kernel
theorem d_X10_flip_20 : decode (yB m_X10_flip) 20 = .ok (.iastore, 1) := by decide +kernel
theorem d_X10_flip_21 : decode (yB m_X10_flip) 21 = .ok (.iconst 0, 1) := by decide +kernel
theorem d_X10_flip_22 : decode (yB m_X10_flip) 22 = .ok (.istore_n 3, 1) := by decide +kernel
theorem d_X10_flip_23 : decode (yB m_X10_flip) 23 = .ok (.iload_n 3, 1) := by decide +kernel
theorem d_X10_flip_24 : decode (yB m_X10_flip) 24 = .ok (.aload_n 0, 1) := by decide +kernel
theorem d_X10_flip_25 : decode (yB m_X10_flip) 25 = .ok (.getfield 37, 3) := by decide +kernel
theorem d_X10_flip_28 : decode (yB m_X10_flip) 28 = .ok (.if_icmp .ge 20, 3) := by decide +kernel
theorem d_X10_flip_31 : decode (yB m_X10_flip) 31 = .ok (.iload_n 3, 1) := by decide +kernel
theorem d_X10_flip_32 : decode (yB m_X10_flip) 32 = .ok (.iload_n 1, 1) := by decide +kernel
theorem d_X10_flip_33 : decode (yB m_X10_flip) 33 = .ok (.if_icmp .eq 9, 3) := by decide +kernel
theorem d_X10_flip_36 : decode (yB m_X10_flip) 36 = .ok (.aload_n 0, 1) := by decide +kernel
theorem d_X10_flip_37 : decode (yB m_X10_flip) 37 = .ok (.iload_n 1, 1) := by decide +kernel
theorem d_X10_flip_38 : decode (yB m_X10_flip) 38 = .ok (.iload_n 3, 1) := by decide +kernel
theorem d_X10_flip_39 : decode (yB m_X10_flip) 39 = .ok (.invokevirtual 54, 3) := by decide +kernel
theorem d_X10_flip_42 : decode (yB m_X10_flip) 42 = .ok (.iinc 3 1, 3) := by decide +kernel
theorem d_X10_flip_45 : decode (yB m_X10_flip) 45 = .ok (.goto (-22), 3) := by decide +kernel
theorem d_X10_flip_48 : decode (yB m_X10_flip) 48 = .ok (.return_, 1) := by decide +kernel
def fn_X10_flip_23 (a0 : Nat) (v1 : Int32) (v2 : Int32) : Nat → Int32 → zD → Option zD
  | 0, _, _ => none
  | n + 1, v3, D => (if (gI D a0 4) ≤ v3 then ((some D)) else ((if v3 = v1 then (((fn_X10_flip_23 a0 v1 v2 n) (v3 + (1 : Int32)) D)) else ((fn_X10_settle a0 v1 v3 D).bind fun D8 => ((fn_X10_flip_23 a0 v1 v2 n) (v3 + (1 : Int32)) D8)))))
def fn_X10_flip (a0 : Nat) (v1 : Int32) (v2 : Int32) (D : zD) : Option zD := (fn_X10_isSign a0 v1 D).bind fun x1 => (if x1 = 0 then ((some D)) else (zck v1 12 <| zck v1 12 <| zlet (sI D (a0 + 1) v1.toNatClampNeg ((gI D (a0 + 1) v1.toNatClampNeg) ^^^ ((1 : Int32) <<< (v2 &&& 31)))) fun D5 => (fn_X10_flip_23 a0 v1 v2 zFU (0 : Int32) D5)))
theorem s_X10_flip_23 {X : zX} {Sh : zSh} {d : Nat} (hst : (zl X).stackTraces = false) (h0 : zSh0 Sh) (hd : 3 ≤ d) {a0 : Nat} {v1 : Int32} {v2 : Int32} (h_a0 : a0 ∈ zI_10) : ∀ (n : Nat) (v3 : Int32) (D : zD) , Rn X m_X10_flip (d + 1) 23 [(0, .ref a0), (1, .int v1), (3, .int v3)] [] (Sh, D) ((oV Sh) (fn_X10_flip_23 a0 v1 v2 n v3 D)) := by
  intro n
  induction n with
  | zero => intro v3 D; exact Rn_none rfl
  | succ n hk23 =>
    intro v3 D
    rw [fn_X10_flip_23]
    refine r_iload_n (pc := 23) 2 d_X10_flip_23 rfl rfl ?_
    refine r_aload_n (pc := 24) 0 d_X10_flip_24 rfl rfl ?_
    refine q_gI (pc := 25) g_X10_37 (LK_10 h0 h_a0) rfl d_X10_flip_25 ?_
    refine r_icmp_ge (f := (oV Sh)) (pc := 28) 48 d_X10_flip_28 (by decide) (fun c6 => ?_) (fun c6 => ?_)
    · exact r_vret (pc := 48) rfl d_X10_flip_48
    · refine r_iload_n (pc := 31) 2 d_X10_flip_31 rfl rfl ?_
      refine r_iload_n (pc := 32) 1 d_X10_flip_32 rfl rfl ?_
      refine r_icmp_eq (f := (oV Sh)) (pc := 33) 42 d_X10_flip_33 (by decide) (fun c7 => ?_) (fun c7 => ?_)
      · refine r_iinc (pc := 42) ((v3 + (1 : Int32))) 2 (ls' := [(3, .int (v3 + (1 : Int32))), (0, .ref a0), (1, .int v1)]) d_X10_flip_42 rfl rfl (Nat.le_of_ble_eq_true rfl) rfl ?_
        refine r_goto (pc := 45) 23 d_X10_flip_45 (by decide) ?_
        refine r_pick [1, 2, 0] (ls' := [(0, .ref a0), (1, .int v1), (3, .int (v3 + (1 : Int32)))]) rfl ?_
        exact hk23 (v3 + (1 : Int32)) D 
      · refine r_aload_n (pc := 36) 0 d_X10_flip_36 rfl rfl ?_
        refine r_iload_n (pc := 37) 1 d_X10_flip_37 rfl rfl ?_
        refine r_iload_n (pc := 38) 2 d_X10_flip_38 rfl rfl ?_
        refine q_cV (f := (oV Sh)) (av := [.ref a0, .int v1, .int v3]) (st := []) (z_runV ck_X10_settle rfl ml_X10_54 ci_X10_settle cv_X10_settle (LK_10 h0 h_a0) (ci := 10) rfl rfl (Nat.le_of_ble_eq_true rfl) d_X10_flip_39) (s_X10_settle hst h0 (by omega) h_a0) kp_V (fun D8 _ => ?_)
        refine r_iinc (pc := 42) ((v3 + (1 : Int32))) 2 (ls' := [(3, .int (v3 + (1 : Int32))), (0, .ref a0), (1, .int v1)]) d_X10_flip_42 rfl rfl (Nat.le_of_ble_eq_true rfl) rfl ?_
        refine r_goto (pc := 45) 23 d_X10_flip_45 (by decide) ?_
        refine r_pick [1, 2, 0] (ls' := [(0, .ref a0), (1, .int v1), (3, .int (v3 + (1 : Int32)))]) rfl ?_
        exact hk23 (v3 + (1 : Int32)) D8 
theorem s_X10_flip {X : zX} {Sh : zSh} {d : Nat} (hst : (zl X).stackTraces = false) (h0 : zSh0 Sh) (hd : 4 ≤ d) {a0 : Nat} {v1 : Int32} {v2 : Int32} (h_a0 : a0 ∈ zI_10) {D : zD} : Sd X m_X10_flip d [.ref a0, .int v1, .int v2] (Sh, D) ((oV Sh) (fn_X10_flip a0 v1 v2 D)) := by
  obtain ⟨d, rfl⟩ : ∃ e, d = e + 1 := ⟨d - 1, by omega⟩
  replace hd : 3 ≤ d := by omega
  refine z_body ck_X10_flip rfl (Nat.le_of_ble_eq_true rfl) rfl hst ?_
  rw [fn_X10_flip]
  show Rn X m_X10_flip (d + 1) 0 [(0, .ref a0), (1, .int v1), (2, .int v2)] [] (Sh, D) _
  refine r_aload_n (pc := 0) 0 d_X10_flip_0 rfl rfl ?_
  refine r_iload_n (pc := 1) 1 d_X10_flip_1 rfl rfl ?_
  refine q_cP (f := (oV Sh)) (av := [.ref a0, .int v1]) (st := []) (z_runV ck_X10_isSign rfl ml_X10_64 ci_X10_isSign cv_X10_isSign (LK_10 h0 h_a0) (ci := 10) rfl rfl (Nat.le_of_ble_eq_true rfl) d_X10_flip_2) (s_X10_isSign hst h0 (by omega) h_a0) kp_V (fun x1 _ => ?_)
  refine r_if_ne (f := (oV Sh)) (pc := 5) 9 d_X10_flip_5 (by decide) (fun c2 => ?_) (fun c2 => ?_)
  · refine r_aload_n (pc := 9) 0 d_X10_flip_9 rfl rfl ?_
    refine r_getR (pc := 10) g_X10_9 (LK_10 h0 h_a0) rfl (LR_10_1 h0 h_a0) d_X10_flip_10 ?_
    refine r_iload_n (pc := 13) 1 d_X10_flip_13 rfl rfl ?_
    refine r_dup2 (pc := 14) d_X10_flip_14 rfl rfl ?_
    refine r_ck (f := (oV Sh)) rfl (fun hc3 => ?_)
    refine q_iald (pc := 15) (j := v1.toNatClampNeg) (LA_10_1 h0 h_a0) hc3 rfl d_X10_flip_15 ?_
    refine r_iconst (pc := 16) (1 : Int32) d_X10_flip_16 rfl ?_
    refine r_iload_n (pc := 17) 2 d_X10_flip_17 rfl rfl ?_
    refine r_ishl (pc := 18) d_X10_flip_18 ?_
    refine r_ixor (pc := 19) d_X10_flip_19 ?_
    refine r_ck (f := (oV Sh)) rfl (fun hc4 => ?_)
    refine q_iast (pc := 20) (j := v1.toNatClampNeg) (LA_10_1 h0 h_a0) hc4 rfl  d_X10_flip_20 ?_
    refine r_letD (f := (oV Sh)) (fun D5 => ?_)
    refine r_iconst (pc := 21) (0 : Int32) d_X10_flip_21 rfl ?_
    refine r_istore_n (pc := 22) (ls' := [(3, .int (0 : Int32)), (0, .ref a0), (1, .int v1), (2, .int v2)]) d_X10_flip_22 rfl (Nat.le_of_ble_eq_true rfl) rfl ?_
    refine r_pick [1, 2, 0] (ls' := [(0, .ref a0), (1, .int v1), (3, .int (0 : Int32))]) rfl ?_
    exact s_X10_flip_23 hst h0 hd h_a0 zFU  (0 : Int32) D5
  · exact r_vret (pc := 8) rfl d_X10_flip_8
/-! CoveredSigns$Tangle.degree -/
theorem d_X10_degree_0 : decode (yB m_X10_degree) 0 = .ok (.aload_n 0, 1) := by decide +kernel
theorem d_X10_degree_1 : decode (yB m_X10_degree) 1 = .ok (.iload_n 1, 1) := by decide +kernel
theorem d_X10_degree_2 : decode (yB m_X10_degree) 2 = .ok (.invokevirtual 64, 3) := by decide +kernel
theorem d_X10_degree_5 : decode (yB m_X10_degree) 5 = .ok (.ifCond .eq 15, 3) := by decide +kernel
theorem d_X10_degree_8 : decode (yB m_X10_degree) 8 = .ok (.aload_n 0, 1) := by decide +kernel
theorem d_X10_degree_9 : decode (yB m_X10_degree) 9 = .ok (.getfield 15, 3) := by decide +kernel
theorem d_X10_degree_12 : decode (yB m_X10_degree) 12 = .ok (.iload_n 1, 1) := by decide +kernel
theorem d_X10_degree_13 : decode (yB m_X10_degree) 13 = .ok (.iaload, 1) := by decide +kernel
theorem d_X10_degree_14 : decode (yB m_X10_degree) 14 = .ok (.invokestatic 80, 3) := by decide +kernel
theorem d_X10_degree_17 : decode (yB m_X10_degree) 17 = .ok (.goto 4, 3) := by decide +kernel
theorem d_X10_degree_20 : decode (yB m_X10_degree) 20 = .ok (.iconst 0, 1) := by decide +kernel
theorem d_X10_degree_21 : decode (yB m_X10_degree) 21 = .ok (.ireturn, 1) := by decide +kernel
def fn_X10_degree (a0 : Nat) (v1 : Int32) (D : zD) : Option Int32 := (fn_X10_isSign a0 v1 D).bind fun x1 => (if x1 = 0 then ((some (0 : Int32))) else (zck v1 12 <| (fn_JI_bitCount (gI D (a0 + 2) v1.toNatClampNeg)).bind fun x4 => (some x4)))
theorem s_X10_degree {X : zX} {Sh : zSh} {d : Nat} (hst : (zl X).stackTraces = false) (h0 : zSh0 Sh) (hd : 2 ≤ d) {a0 : Nat} {v1 : Int32} (h_a0 : a0 ∈ zI_10) {D : zD} : Sd X m_X10_degree d [.ref a0, .int v1] (Sh, D) ((oP Sh D) (fn_X10_degree a0 v1 D)) := by
  obtain ⟨d, rfl⟩ : ∃ e, d = e + 1 := ⟨d - 1, by omega⟩
  replace hd : 1 ≤ d := by omega
  refine z_body ck_X10_degree rfl (Nat.le_of_ble_eq_true rfl) rfl hst ?_
  rw [fn_X10_degree]
  show Rn X m_X10_degree (d + 1) 0 [(0, .ref a0), (1, .int v1)] [] (Sh, D) _
  refine r_aload_n (pc := 0) 0 d_X10_degree_0 rfl rfl ?_
  refine r_iload_n (pc := 1) 1 d_X10_degree_1 rfl rfl ?_
  refine q_cP (f := (oP Sh D)) (av := [.ref a0, .int v1]) (st := []) (z_runV ck_X10_isSign rfl ml_X10_64 ci_X10_isSign cv_X10_isSign (LK_10 h0 h_a0) (ci := 10) rfl rfl (Nat.le_of_ble_eq_true rfl) d_X10_degree_2) (s_X10_isSign hst h0 (by omega) h_a0) kp_P (fun x1 _ => ?_)
  refine r_if_eq (f := (oP Sh D)) (pc := 5) 20 d_X10_degree_5 (by decide) (fun c2 => ?_) (fun c2 => ?_)
  · refine r_iconst (pc := 20) (0 : Int32) d_X10_degree_20 rfl ?_
    exact r_iret (pc := 21) rfl d_X10_degree_21
  · refine r_aload_n (pc := 8) 0 d_X10_degree_8 rfl rfl ?_
    refine r_getR (pc := 9) g_X10_15 (LK_10 h0 h_a0) rfl (LR_10_2 h0 h_a0) d_X10_degree_9 ?_
    refine r_iload_n (pc := 12) 1 d_X10_degree_12 rfl rfl ?_
    refine r_ck (f := (oP Sh D)) rfl (fun hc3 => ?_)
    refine q_iald (pc := 13) (j := v1.toNatClampNeg) (LA_10_2 h0 h_a0) hc3 rfl d_X10_degree_13 ?_
    refine q_cP (f := (oP Sh D)) (av := [.int (gI D (a0 + 2) v1.toNatClampNeg)]) (st := []) (z_runS ck_JI_bitCount rfl ml_X10_80 cs_JI_bitCount rfl (Nat.le_of_ble_eq_true rfl) d_X10_degree_14) (s_JI_bitCount hst h0 (by omega)) kp_P (fun x4 _ => ?_)
    refine r_goto (pc := 17) 21 d_X10_degree_17 (by decide) ?_
    exact r_iret (pc := 21) rfl d_X10_degree_21
/-! CoveredSigns$Tangle.curesOf -/
theorem d_X10_curesOf_0 : decode (yB m_X10_curesOf) 0 = .ok (.aload_n 0, 1) := by decide +kernel
theorem d_X10_curesOf_1 : decode (yB m_X10_curesOf) 1 = .ok (.iload_n 1, 1) := by decide +kernel
theorem d_X10_curesOf_2 : decode (yB m_X10_curesOf) 2 = .ok (.invokevirtual 64, 3) := by decide +kernel
theorem d_X10_curesOf_5 : decode (yB m_X10_curesOf) 5 = .ok (.ifCond .eq 15, 3) := by decide +kernel
theorem d_X10_curesOf_8 : decode (yB m_X10_curesOf) 8 = .ok (.aload_n 0, 1) := by decide +kernel
theorem d_X10_curesOf_9 : decode (yB m_X10_curesOf) 9 = .ok (.getfield 47, 3) := by decide +kernel
theorem d_X10_curesOf_12 : decode (yB m_X10_curesOf) 12 = .ok (.aload_n 0, 1) := by decide +kernel
theorem d_X10_curesOf_13 : decode (yB m_X10_curesOf) 13 = .ok (.iload_n 1, 1) := by decide +kernel
theorem d_X10_curesOf_14 : decode (yB m_X10_curesOf) 14 = .ok (.invokevirtual 85, 3) := by decide +kernel
theorem d_X10_curesOf_17 : decode (yB m_X10_curesOf) 17 = .ok (.if_icmp .eq 5, 3) := by decide +kernel
theorem d_X10_curesOf_20 : decode (yB m_X10_curesOf) 20 = .ok (.iconst 0, 1) := by decide +kernel
theorem d_X10_curesOf_21 : decode (yB m_X10_curesOf) 21 = .ok (.ireturn, 1) := by decide +kernel
theorem d_X10_curesOf_22 : decode (yB m_X10_curesOf) 22 = .ok (.iconst 0, 1) := by decide +kernel
theorem d_X10_curesOf_23 : decode (yB m_X10_curesOf) 23 = .ok (.istore_n 2, 1) := by decide +kernel
theorem d_X10_curesOf_24 : decode (yB m_X10_curesOf) 24 = .ok (.iconst 0, 1) := by decide +kernel
theorem d_X10_curesOf_25 : decode (yB m_X10_curesOf) 25 = .ok (.istore_n 3, 1) := by decide +kernel
theorem d_X10_curesOf_26 : decode (yB m_X10_curesOf) 26 = .ok (.iload_n 3, 1) := by decide +kernel
theorem d_X10_curesOf_27 : decode (yB m_X10_curesOf) 27 = .ok (.aload_n 0, 1) := by decide +kernel
theorem d_X10_curesOf_28 : decode (yB m_X10_curesOf) 28 = .ok (.getfield 37, 3) := by decide +kernel
theorem d_X10_curesOf_31 : decode (yB m_X10_curesOf) 31 = .ok (.if_icmp .ge 34, 3) := by decide +kernel
theorem d_X10_curesOf_34 : decode (yB m_X10_curesOf) 34 = .ok (.iload_n 3, 1) := by decide +kernel
theorem d_X10_curesOf_35 : decode (yB m_X10_curesOf) 35 = .ok (.bipush 12, 2) := by decide +kernel
theorem d_X10_curesOf_37 : decode (yB m_X10_curesOf) 37 = .ok (.if_icmp .ge 28, 3) := by decide +kernel
theorem d_X10_curesOf_40 : decode (yB m_X10_curesOf) 40 = .ok (.iload_n 3, 1) := by decide +kernel
theorem d_X10_curesOf_41 : decode (yB m_X10_curesOf) 41 = .ok (.iload_n 1, 1) := by decide +kernel
theorem d_X10_curesOf_42 : decode (yB m_X10_curesOf) 42 = .ok (.if_icmp .eq 17, 3) := by decide +kernel
theorem d_X10_curesOf_45 : decode (yB m_X10_curesOf) 45 = .ok (.iload_n 2, 1) := by decide +kernel
theorem d_X10_curesOf_46 : decode (yB m_X10_curesOf) 46 = .ok (.aload_n 0, 1) := by decide +kernel
theorem d_X10_curesOf_47 : decode (yB m_X10_curesOf) 47 = .ok (.getfield 18, 3) := by decide +kernel
theorem d_X10_curesOf_50 : decode (yB m_X10_curesOf) 50 = .ok (.iload_n 1, 1) := by decide +kernel
theorem d_X10_curesOf_51 : decode (yB m_X10_curesOf) 51 = .ok (.bipush 12, 2) := by decide +kernel
theorem d_X10_curesOf_53 : decode (yB m_X10_curesOf) 53 = .ok (.imul, 1) := by decide +kernel
theorem d_X10_curesOf_54 : decode (yB m_X10_curesOf) 54 = .ok (.iload_n 3, 1) := by decide +kernel
theorem d_X10_curesOf_55 : decode (yB m_X10_curesOf) 55 = .ok (.iadd, 1) := by decide +kernel
theorem d_X10_curesOf_56 : decode (yB m_X10_curesOf) 56 = .ok (.iaload, 1) := by decide +kernel
theorem d_X10_curesOf_57 : decode (yB m_X10_curesOf) 57 = .ok (.ior, 1) := by decide +kernel
theorem d_X10_curesOf_58 : decode (yB m_X10_curesOf) 58 = .ok (.istore_n 2, 1) := by decide +kernel
theorem d_X10_curesOf_59 : decode (yB m_X10_curesOf) 59 = .ok (.iinc 3 1, 3) := by decide +kernel
theorem d_X10_curesOf_62 : decode (yB m_X10_curesOf) 62 = .ok (.goto (-36), 3) := by decide +kernel
theorem d_X10_curesOf_65 : decode (yB m_X10_curesOf) 65 = .ok (.aload_n 0, 1) := by decide +kernel
theorem d_X10_curesOf_66 : decode (yB m_X10_curesOf) 66 = .ok (.invokevirtual 73, 3) := by decide +kernel
theorem d_X10_curesOf_69 : decode (yB m_X10_curesOf) 69 = .ok (.iload_n 2, 1) := by decide +kernel
theorem d_X10_curesOf_70 : decode (yB m_X10_curesOf) 70 = .ok (.iconst (-1), 1) := by decide +kernel
theorem d_X10_curesOf_71 : decode (yB m_X10_curesOf) 71 = .ok (.ixor, 1) := by decide +kernel
theorem d_X10_curesOf_72 : decode (yB m_X10_curesOf) 72 = .ok (.iand, 1) := by decide +kernel
theorem d_X10_curesOf_73 : decode (yB m_X10_curesOf) 73 = .ok (.ireturn, 1) := by decide +kernel
def fn_X10_curesOf_65 (a0 : Nat) (v1 : Int32) (D : zD) (v2 : Int32) : Option Int32 := (fn_X10_board a0 D).bind fun x6 => (some (x6 &&& (v2 ^^^ (-1 : Int32))))
def fn_X10_curesOf_26 (a0 : Nat) (v1 : Int32) (D : zD) : Nat → Int32 → Int32 → Option Int32
  | 0, _, _ => none
  | n + 1, v2, v3 => (if (gI D a0 4) ≤ v3 then ((fn_X10_curesOf_65 a0 v1 D v2)) else ((if (12 : Int32) ≤ v3 then ((fn_X10_curesOf_65 a0 v1 D v2)) else ((if v3 = v1 then (((fn_X10_curesOf_26 a0 v1 D n) v2 (v3 + (1 : Int32)))) else (zck ((v1 * (12 : Int32)) + v3) 144 <| zlet (v2 ||| (gI D (a0 + 3) ((v1 * (12 : Int32)) + v3).toNatClampNeg)) fun x10 => ((fn_X10_curesOf_26 a0 v1 D n) x10 (v3 + (1 : Int32)))))))))
def fn_X10_curesOf (a0 : Nat) (v1 : Int32) (D : zD) : Option Int32 := (fn_X10_isSign a0 v1 D).bind fun x1 => (if x1 = 0 then ((some (0 : Int32))) else ((fn_X10_degree a0 v1 D).bind fun x3 => (if (gI D a0 7) = x3 then ((fn_X10_curesOf_26 a0 v1 D zFU (0 : Int32) (0 : Int32))) else ((some (0 : Int32))))))
theorem s_X10_curesOf_65 {X : zX} {Sh : zSh} {d : Nat} (hst : (zl X).stackTraces = false) (h0 : zSh0 Sh) (hd : 2 ≤ d) {a0 : Nat} {v1 : Int32} (h_a0 : a0 ∈ zI_10) (D : zD) (v2 : Int32)  : Rn X m_X10_curesOf (d + 1) 65 [(0, .ref a0), (2, .int v2)] [] (Sh, D) ((oP Sh D) (fn_X10_curesOf_65 a0 v1 D v2)) := by
  rw [fn_X10_curesOf_65]
  refine r_aload_n (pc := 65) 0 d_X10_curesOf_65 rfl rfl ?_
  refine q_cP (f := (oP Sh D)) (av := [.ref a0]) (st := []) (z_runV ck_X10_board rfl ml_X10_73 ci_X10_board cv_X10_board (LK_10 h0 h_a0) (ci := 10) rfl rfl (Nat.le_of_ble_eq_true rfl) d_X10_curesOf_66) (s_X10_board hst h0 (by omega) h_a0) kp_P (fun x6 _ => ?_)
  refine r_iload_n (pc := 69) 1 d_X10_curesOf_69 rfl rfl ?_
  refine r_iconst (pc := 70) (-1 : Int32) d_X10_curesOf_70 rfl ?_
  refine r_ixor (pc := 71) d_X10_curesOf_71 ?_
  refine r_iand (pc := 72) d_X10_curesOf_72 ?_
  exact r_iret (pc := 73) rfl d_X10_curesOf_73
theorem s_X10_curesOf_26 {X : zX} {Sh : zSh} {d : Nat} (hst : (zl X).stackTraces = false) (h0 : zSh0 Sh) (hd : 2 ≤ d) {a0 : Nat} {v1 : Int32} (h_a0 : a0 ∈ zI_10) (D : zD) : ∀ (n : Nat) (v2 : Int32) (v3 : Int32) , Rn X m_X10_curesOf (d + 1) 26 [(0, .ref a0), (1, .int v1), (2, .int v2), (3, .int v3)] [] (Sh, D) ((oP Sh D) (fn_X10_curesOf_26 a0 v1 D n v2 v3)) := by
  intro n
  induction n with
  | zero => intro v2 v3; exact Rn_none rfl
  | succ n hk26 =>
    intro v2 v3
    rw [fn_X10_curesOf_26]
    refine r_iload_n (pc := 26) 3 d_X10_curesOf_26 rfl rfl ?_
    refine r_aload_n (pc := 27) 0 d_X10_curesOf_27 rfl rfl ?_
    refine q_gI (pc := 28) g_X10_37 (LK_10 h0 h_a0) rfl d_X10_curesOf_28 ?_
    refine r_icmp_ge (f := (oP Sh D)) (pc := 31) 65 d_X10_curesOf_31 (by decide) (fun c5 => ?_) (fun c5 => ?_)
    · refine r_pick [0, 2] (ls' := [(0, .ref a0), (2, .int v2)]) rfl ?_
      exact s_X10_curesOf_65 hst h0 hd h_a0 D v2
    · refine r_iload_n (pc := 34) 3 d_X10_curesOf_34 rfl rfl ?_
      refine r_bipush (pc := 35) (12 : Int32) d_X10_curesOf_35 rfl ?_
      refine r_icmp_ge (f := (oP Sh D)) (pc := 37) 65 d_X10_curesOf_37 (by decide) (fun c7 => ?_) (fun c7 => ?_)
      · refine r_pick [0, 2] (ls' := [(0, .ref a0), (2, .int v2)]) rfl ?_
        exact s_X10_curesOf_65 hst h0 hd h_a0 D v2
      · refine r_iload_n (pc := 40) 3 d_X10_curesOf_40 rfl rfl ?_
        refine r_iload_n (pc := 41) 1 d_X10_curesOf_41 rfl rfl ?_
        refine r_icmp_eq (f := (oP Sh D)) (pc := 42) 59 d_X10_curesOf_42 (by decide) (fun c8 => ?_) (fun c8 => ?_)
        · refine r_iinc (pc := 59) ((v3 + (1 : Int32))) 3 (ls' := [(3, .int (v3 + (1 : Int32))), (0, .ref a0), (1, .int v1), (2, .int v2)]) d_X10_curesOf_59 rfl rfl (Nat.le_of_ble_eq_true rfl) rfl ?_
          refine r_goto (pc := 62) 26 d_X10_curesOf_62 (by decide) ?_
          refine r_pick [1, 2, 3, 0] (ls' := [(0, .ref a0), (1, .int v1), (2, .int v2), (3, .int (v3 + (1 : Int32)))]) rfl ?_
          exact hk26 v2 (v3 + (1 : Int32)) 
        · refine r_iload_n (pc := 45) 2 d_X10_curesOf_45 rfl rfl ?_
          refine r_aload_n (pc := 46) 0 d_X10_curesOf_46 rfl rfl ?_
          refine r_getR (pc := 47) g_X10_18 (LK_10 h0 h_a0) rfl (LR_10_3 h0 h_a0) d_X10_curesOf_47 ?_
          refine r_iload_n (pc := 50) 1 d_X10_curesOf_50 rfl rfl ?_
          refine r_bipush (pc := 51) (12 : Int32) d_X10_curesOf_51 rfl ?_
          refine r_imul (pc := 53) d_X10_curesOf_53 ?_
          refine r_iload_n (pc := 54) 3 d_X10_curesOf_54 rfl rfl ?_
          refine r_iadd (pc := 55) d_X10_curesOf_55 ?_
          refine r_ck (f := (oP Sh D)) rfl (fun hc9 => ?_)
          refine q_iald (pc := 56) (j := ((v1 * (12 : Int32)) + v3).toNatClampNeg) (LA_10_3 h0 h_a0) hc9 rfl d_X10_curesOf_56 ?_
          refine r_ior (pc := 57) d_X10_curesOf_57 ?_
          refine r_leti (f := (oP Sh D)) (fun x10 => ?_)
          refine r_istore_n (pc := 58) (ls' := [(2, .int x10), (0, .ref a0), (1, .int v1), (3, .int v3)]) d_X10_curesOf_58 rfl (Nat.le_of_ble_eq_true rfl) rfl ?_
          refine r_iinc (pc := 59) ((v3 + (1 : Int32))) 3 (ls' := [(3, .int (v3 + (1 : Int32))), (2, .int x10), (0, .ref a0), (1, .int v1)]) d_X10_curesOf_59 rfl rfl (Nat.le_of_ble_eq_true rfl) rfl ?_
          refine r_goto (pc := 62) 26 d_X10_curesOf_62 (by decide) ?_
          refine r_pick [2, 3, 1, 0] (ls' := [(0, .ref a0), (1, .int v1), (2, .int x10), (3, .int (v3 + (1 : Int32)))]) rfl ?_
          exact hk26 x10 (v3 + (1 : Int32)) 
theorem s_X10_curesOf {X : zX} {Sh : zSh} {d : Nat} (hst : (zl X).stackTraces = false) (h0 : zSh0 Sh) (hd : 3 ≤ d) {a0 : Nat} {v1 : Int32} (h_a0 : a0 ∈ zI_10) {D : zD} : Sd X m_X10_curesOf d [.ref a0, .int v1] (Sh, D) ((oP Sh D) (fn_X10_curesOf a0 v1 D)) := by
  obtain ⟨d, rfl⟩ : ∃ e, d = e + 1 := ⟨d - 1, by omega⟩
  replace hd : 2 ≤ d := by omega
  refine z_body ck_X10_curesOf rfl (Nat.le_of_ble_eq_true rfl) rfl hst ?_
  rw [fn_X10_curesOf]
  show Rn X m_X10_curesOf (d + 1) 0 [(0, .ref a0), (1, .int v1)] [] (Sh, D) _
  refine r_aload_n (pc := 0) 0 d_X10_curesOf_0 rfl rfl ?_
  refine r_iload_n (pc := 1) 1 d_X10_curesOf_1 rfl rfl ?_
  refine q_cP (f := (oP Sh D)) (av := [.ref a0, .int v1]) (st := []) (z_runV ck_X10_isSign rfl ml_X10_64 ci_X10_isSign cv_X10_isSign (LK_10 h0 h_a0) (ci := 10) rfl rfl (Nat.le_of_ble_eq_true rfl) d_X10_curesOf_2) (s_X10_isSign hst h0 (by omega) h_a0) kp_P (fun x1 _ => ?_)
  refine r_if_eq (f := (oP Sh D)) (pc := 5) 20 d_X10_curesOf_5 (by decide) (fun c2 => ?_) (fun c2 => ?_)
  · refine r_iconst (pc := 20) (0 : Int32) d_X10_curesOf_20 rfl ?_
    exact r_iret (pc := 21) rfl d_X10_curesOf_21
  · refine r_aload_n (pc := 8) 0 d_X10_curesOf_8 rfl rfl ?_
    refine q_gI (pc := 9) g_X10_47 (LK_10 h0 h_a0) rfl d_X10_curesOf_9 ?_
    refine r_aload_n (pc := 12) 0 d_X10_curesOf_12 rfl rfl ?_
    refine r_iload_n (pc := 13) 1 d_X10_curesOf_13 rfl rfl ?_
    refine q_cP (f := (oP Sh D)) (av := [.ref a0, .int v1]) (st := [.int (gI D a0 7)]) (z_runV ck_X10_degree rfl ml_X10_85 ci_X10_degree cv_X10_degree (LK_10 h0 h_a0) (ci := 10) rfl rfl (Nat.le_of_ble_eq_true rfl) d_X10_curesOf_14) (s_X10_degree hst h0 (by omega) h_a0) kp_P (fun x3 _ => ?_)
    refine r_icmp_eq (f := (oP Sh D)) (pc := 17) 22 d_X10_curesOf_17 (by decide) (fun c4 => ?_) (fun c4 => ?_)
    · refine r_iconst (pc := 22) (0 : Int32) d_X10_curesOf_22 rfl ?_
      refine r_istore_n (pc := 23) (ls' := [(2, .int (0 : Int32)), (0, .ref a0), (1, .int v1)]) d_X10_curesOf_23 rfl (Nat.le_of_ble_eq_true rfl) rfl ?_
      refine r_iconst (pc := 24) (0 : Int32) d_X10_curesOf_24 rfl ?_
      refine r_istore_n (pc := 25) (ls' := [(3, .int (0 : Int32)), (2, .int (0 : Int32)), (0, .ref a0), (1, .int v1)]) d_X10_curesOf_25 rfl (Nat.le_of_ble_eq_true rfl) rfl ?_
      refine r_pick [2, 3, 1, 0] (ls' := [(0, .ref a0), (1, .int v1), (2, .int (0 : Int32)), (3, .int (0 : Int32))]) rfl ?_
      exact s_X10_curesOf_26 hst h0 hd h_a0 D zFU  (0 : Int32) (0 : Int32)
    · refine r_iconst (pc := 20) (0 : Int32) d_X10_curesOf_20 rfl ?_
      exact r_iret (pc := 21) rfl d_X10_curesOf_21
/-! CoveredSigns$Tangle.hangsOn -/
theorem d_X10_hangsOn_0 : decode (yB m_X10_hangsOn) 0 = .ok (.iconst 0, 1) := by decide +kernel
theorem d_X10_hangsOn_1 : decode (yB m_X10_hangsOn) 1 = .ok (.istore_n 2, 1) := by decide +kernel
theorem d_X10_hangsOn_2 : decode (yB m_X10_hangsOn) 2 = .ok (.iload_n 2, 1) := by decide +kernel
theorem d_X10_hangsOn_3 : decode (yB m_X10_hangsOn) 3 = .ok (.aload_n 0, 1) := by decide +kernel
theorem d_X10_hangsOn_4 : decode (yB m_X10_hangsOn) 4 = .ok (.getfield 37, 3) := by decide +kernel
theorem d_X10_hangsOn_7 : decode (yB m_X10_hangsOn) 7 = .ok (.if_icmp .ge 59, 3) := by decide +kernel
theorem d_X10_hangsOn_10 : decode (yB m_X10_hangsOn) 10 = .ok (.aload_n 0, 1) := by decide +kernel
theorem d_X10_hangsOn_11 : decode (yB m_X10_hangsOn) 11 = .ok (.iload_n 1, 1) := by decide +kernel
theorem d_X10_hangsOn_12 : decode (yB m_X10_hangsOn) 12 = .ok (.invokevirtual 64, 3) := by decide +kernel
theorem d_X10_hangsOn_15 : decode (yB m_X10_hangsOn) 15 = .ok (.ifCond .eq 16, 3) := by decide +kernel
theorem d_X10_hangsOn_18 : decode (yB m_X10_hangsOn) 18 = .ok (.aload_n 0, 1) := by decide +kernel
theorem d_X10_hangsOn_19 : decode (yB m_X10_hangsOn) 19 = .ok (.getfield 15, 3) := by decide +kernel
theorem d_X10_hangsOn_22 : decode (yB m_X10_hangsOn) 22 = .ok (.iload_n 1, 1) := by decide +kernel
theorem d_X10_hangsOn_23 : decode (yB m_X10_hangsOn) 23 = .ok (.iaload, 1) := by decide +kernel
theorem d_X10_hangsOn_24 : decode (yB m_X10_hangsOn) 24 = .ok (.iload_n 2, 1) := by decide +kernel
theorem d_X10_hangsOn_25 : decode (yB m_X10_hangsOn) 25 = .ok (.ishr, 1) := by decide +kernel
theorem d_X10_hangsOn_26 : decode (yB m_X10_hangsOn) 26 = .ok (.iconst 1, 1) := by decide +kernel
theorem d_X10_hangsOn_27 : decode (yB m_X10_hangsOn) 27 = .ok (.iand, 1) := by decide +kernel
theorem d_X10_hangsOn_28 : decode (yB m_X10_hangsOn) 28 = .ok (.goto 4, 3) := by decide +kernel
theorem d_X10_hangsOn_31 : decode (yB m_X10_hangsOn) 31 = .ok (.iconst 0, 1) := by decide +kernel
theorem d_X10_hangsOn_32 : decode (yB m_X10_hangsOn) 32 = .ok (.istore_n 3, 1) := by decide +kernel
theorem d_X10_hangsOn_33 : decode (yB m_X10_hangsOn) 33 = .ok (.iload_n 2, 1) := by decide +kernel
theorem d_X10_hangsOn_34 : decode (yB m_X10_hangsOn) 34 = .ok (.iload_n 1, 1) := by decide +kernel
theorem d_X10_hangsOn_35 : decode (yB m_X10_hangsOn) 35 = .ok (.if_icmp .eq 25, 3) := by decide +kernel
theorem d_X10_hangsOn_38 : decode (yB m_X10_hangsOn) 38 = .ok (.aload_n 0, 1) := by decide +kernel
theorem d_X10_hangsOn_39 : decode (yB m_X10_hangsOn) 39 = .ok (.getfield 47, 3) := by decide +kernel
theorem d_X10_hangsOn_42 : decode (yB m_X10_hangsOn) 42 = .ok (.aload_n 0, 1) := by decide +kernel
theorem d_X10_hangsOn_43 : decode (yB m_X10_hangsOn) 43 = .ok (.iload_n 1, 1) := by decide +kernel
theorem d_X10_hangsOn_44 : decode (yB m_X10_hangsOn) 44 = .ok (.invokevirtual 85, 3) := by decide +kernel
theorem d_X10_hangsOn_47 : decode (yB m_X10_hangsOn) 47 = .ok (.aload_n 0, 1) := by decide +kernel
theorem d_X10_hangsOn_48 : decode (yB m_X10_hangsOn) 48 = .ok (.iload_n 2, 1) := by decide +kernel
theorem d_X10_hangsOn_49 : decode (yB m_X10_hangsOn) 49 = .ok (.invokevirtual 85, 3) := by decide +kernel
theorem d_X10_hangsOn_52 : decode (yB m_X10_hangsOn) 52 = .ok (.iadd, 1) := by decide +kernel
theorem d_X10_hangsOn_53 : decode (yB m_X10_hangsOn) 53 = .ok (.iload_n 3, 1) := by decide +kernel
theorem d_X10_hangsOn_54 : decode (yB m_X10_hangsOn) 54 = .ok (.isub, 1) := by decide +kernel
theorem d_X10_hangsOn_55 : decode (yB m_X10_hangsOn) 55 = .ok (.if_icmp .ne 5, 3) := by decide +kernel
theorem d_X10_hangsOn_58 : decode (yB m_X10_hangsOn) 58 = .ok (.iconst 1, 1) := by decide +kernel
theorem d_X10_hangsOn_59 : decode (yB m_X10_hangsOn) 59 = .ok (.ireturn, 1) := by decide +kernel
theorem d_X10_hangsOn_60 : decode (yB m_X10_hangsOn) 60 = .ok (.iinc 2 1, 3) := by decide +kernel
theorem d_X10_hangsOn_63 : decode (yB m_X10_hangsOn) 63 = .ok (.goto (-61), 3) := by decide +kernel
theorem d_X10_hangsOn_66 : decode (yB m_X10_hangsOn) 66 = .ok (.iconst 0, 1) := by decide +kernel
theorem d_X10_hangsOn_67 : decode (yB m_X10_hangsOn) 67 = .ok (.ireturn, 1) := by decide +kernel
def fn_X10_hangsOn_32 (a0 : Nat) (v1 : Int32) (D : zD) (k2 : Int32 → Option Int32) (v2 : Int32) (w0 : Int32) : Option Int32 := (if v2 = v1 then ((k2 (v2 + (1 : Int32)))) else ((fn_X10_degree a0 v1 D).bind fun x5 => (fn_X10_degree a0 v2 D).bind fun x6 => (if (gI D a0 7) = ((x5 + x6) - w0) then ((some (1 : Int32))) else ((k2 (v2 + (1 : Int32)))))))
def fn_X10_hangsOn_2 (a0 : Nat) (v1 : Int32) (D : zD) : Nat → Int32 → Option Int32
  | 0, _ => none
  | n + 1, v2 => (if (gI D a0 4) ≤ v2 then ((some (0 : Int32))) else ((fn_X10_isSign a0 v1 D).bind fun x2 => (if x2 = 0 then ((fn_X10_hangsOn_32 a0 v1 D (fn_X10_hangsOn_2 a0 v1 D n) v2 (0 : Int32))) else (zck v1 12 <| (fn_X10_hangsOn_32 a0 v1 D (fn_X10_hangsOn_2 a0 v1 D n) v2 (((gI D (a0 + 2) v1.toNatClampNeg) >>> (v2 &&& 31)) &&& (1 : Int32)))))))
def fn_X10_hangsOn (a0 : Nat) (v1 : Int32) (D : zD) : Option Int32 := (fn_X10_hangsOn_2 a0 v1 D zFU (0 : Int32))
theorem s_X10_hangsOn_32 {X : zX} {Sh : zSh} {d : Nat} (hst : (zl X).stackTraces = false) (h0 : zSh0 Sh) (hd : 2 ≤ d) {a0 : Nat} {v1 : Int32} (h_a0 : a0 ∈ zI_10) (D : zD) (k2 : Int32 → Option Int32) (hk2 : ∀ (v2 : Int32) , Rn X m_X10_hangsOn (d + 1) 2 [(0, .ref a0), (1, .int v1), (2, .int v2)] [] (Sh, D) ((oP Sh D) (k2 v2))) (v2 : Int32) (w0 : Int32)  : Rn X m_X10_hangsOn (d + 1) 32 [(0, .ref a0), (1, .int v1), (2, .int v2)] [.int w0] (Sh, D) ((oP Sh D) (fn_X10_hangsOn_32 a0 v1 D k2 v2 w0)) := by
  rw [fn_X10_hangsOn_32]
  refine r_istore_n (pc := 32) (ls' := [(3, .int w0), (0, .ref a0), (1, .int v1), (2, .int v2)]) d_X10_hangsOn_32 rfl (Nat.le_of_ble_eq_true rfl) rfl ?_
  refine r_iload_n (pc := 33) 3 d_X10_hangsOn_33 rfl rfl ?_
  refine r_iload_n (pc := 34) 2 d_X10_hangsOn_34 rfl rfl ?_
  refine r_icmp_eq (f := (oP Sh D)) (pc := 35) 60 d_X10_hangsOn_35 (by decide) (fun c4 => ?_) (fun c4 => ?_)
  · refine r_iinc (pc := 60) ((v2 + (1 : Int32))) 3 (ls' := [(2, .int (v2 + (1 : Int32))), (3, .int w0), (0, .ref a0), (1, .int v1)]) d_X10_hangsOn_60 rfl rfl (Nat.le_of_ble_eq_true rfl) rfl ?_
    refine r_goto (pc := 63) 2 d_X10_hangsOn_63 (by decide) ?_
    refine r_pick [2, 3, 0] (ls' := [(0, .ref a0), (1, .int v1), (2, .int (v2 + (1 : Int32)))]) rfl ?_
    exact hk2 (v2 + (1 : Int32)) 
  · refine r_aload_n (pc := 38) 1 d_X10_hangsOn_38 rfl rfl ?_
    refine q_gI (pc := 39) g_X10_47 (LK_10 h0 h_a0) rfl d_X10_hangsOn_39 ?_
    refine r_aload_n (pc := 42) 1 d_X10_hangsOn_42 rfl rfl ?_
    refine r_iload_n (pc := 43) 2 d_X10_hangsOn_43 rfl rfl ?_
    refine q_cP (f := (oP Sh D)) (av := [.ref a0, .int v1]) (st := [.int (gI D a0 7)]) (z_runV ck_X10_degree rfl ml_X10_85 ci_X10_degree cv_X10_degree (LK_10 h0 h_a0) (ci := 10) rfl rfl (Nat.le_of_ble_eq_true rfl) d_X10_hangsOn_44) (s_X10_degree hst h0 (by omega) h_a0) kp_P (fun x5 _ => ?_)
    refine r_aload_n (pc := 47) 1 d_X10_hangsOn_47 rfl rfl ?_
    refine r_iload_n (pc := 48) 3 d_X10_hangsOn_48 rfl rfl ?_
    refine q_cP (f := (oP Sh D)) (av := [.ref a0, .int v2]) (st := [.int x5, .int (gI D a0 7)]) (z_runV ck_X10_degree rfl ml_X10_85 ci_X10_degree cv_X10_degree (LK_10 h0 h_a0) (ci := 10) rfl rfl (Nat.le_of_ble_eq_true rfl) d_X10_hangsOn_49) (s_X10_degree hst h0 (by omega) h_a0) kp_P (fun x6 _ => ?_)
    refine r_iadd (pc := 52) d_X10_hangsOn_52 ?_
    refine r_iload_n (pc := 53) 0 d_X10_hangsOn_53 rfl rfl ?_
    refine r_isub (pc := 54) d_X10_hangsOn_54 ?_
    refine r_icmp_ne (f := (oP Sh D)) (pc := 55) 60 d_X10_hangsOn_55 (by decide) (fun c7 => ?_) (fun c7 => ?_)
    · refine r_iinc (pc := 60) ((v2 + (1 : Int32))) 3 (ls' := [(2, .int (v2 + (1 : Int32))), (3, .int w0), (0, .ref a0), (1, .int v1)]) d_X10_hangsOn_60 rfl rfl (Nat.le_of_ble_eq_true rfl) rfl ?_
      refine r_goto (pc := 63) 2 d_X10_hangsOn_63 (by decide) ?_
      refine r_pick [2, 3, 0] (ls' := [(0, .ref a0), (1, .int v1), (2, .int (v2 + (1 : Int32)))]) rfl ?_
      exact hk2 (v2 + (1 : Int32)) 
    · refine r_iconst (pc := 58) (1 : Int32) d_X10_hangsOn_58 rfl ?_
      exact r_zret (pc := 59) rfl (by decide) d_X10_hangsOn_59
theorem s_X10_hangsOn_2 {X : zX} {Sh : zSh} {d : Nat} (hst : (zl X).stackTraces = false) (h0 : zSh0 Sh) (hd : 2 ≤ d) {a0 : Nat} {v1 : Int32} (h_a0 : a0 ∈ zI_10) (D : zD) : ∀ (n : Nat) (v2 : Int32) , Rn X m_X10_hangsOn (d + 1) 2 [(0, .ref a0), (1, .int v1), (2, .int v2)] [] (Sh, D) ((oP Sh D) (fn_X10_hangsOn_2 a0 v1 D n v2)) := by
  intro n
  induction n with
  | zero => intro v2; exact Rn_none rfl
  | succ n hk2 =>
    intro v2
    rw [fn_X10_hangsOn_2]
    refine r_iload_n (pc := 2) 2 d_X10_hangsOn_2 rfl rfl ?_
    refine r_aload_n (pc := 3) 0 d_X10_hangsOn_3 rfl rfl ?_
    refine q_gI (pc := 4) g_X10_37 (LK_10 h0 h_a0) rfl d_X10_hangsOn_4 ?_
    refine r_icmp_ge (f := (oP Sh D)) (pc := 7) 66 d_X10_hangsOn_7 (by decide) (fun c1 => ?_) (fun c1 => ?_)
    · refine r_iconst (pc := 66) (0 : Int32) d_X10_hangsOn_66 rfl ?_
      exact r_zret (pc := 67) rfl (by decide) d_X10_hangsOn_67
    · refine r_aload_n (pc := 10) 0 d_X10_hangsOn_10 rfl rfl ?_
      refine r_iload_n (pc := 11) 1 d_X10_hangsOn_11 rfl rfl ?_
      refine q_cP (f := (oP Sh D)) (av := [.ref a0, .int v1]) (st := []) (z_runV ck_X10_isSign rfl ml_X10_64 ci_X10_isSign cv_X10_isSign (LK_10 h0 h_a0) (ci := 10) rfl rfl (Nat.le_of_ble_eq_true rfl) d_X10_hangsOn_12) (s_X10_isSign hst h0 (by omega) h_a0) kp_P (fun x2 _ => ?_)
      refine r_if_eq (f := (oP Sh D)) (pc := 15) 31 d_X10_hangsOn_15 (by decide) (fun c3 => ?_) (fun c3 => ?_)
      · refine r_iconst (pc := 31) (0 : Int32) d_X10_hangsOn_31 rfl ?_
        refine r_pick [0, 1, 2] (ls' := [(0, .ref a0), (1, .int v1), (2, .int v2)]) rfl ?_
        exact s_X10_hangsOn_32 hst h0 hd h_a0 D (fn_X10_hangsOn_2 a0 v1 D n) hk2 v2 (0 : Int32)
      · refine r_aload_n (pc := 18) 0 d_X10_hangsOn_18 rfl rfl ?_
        refine r_getR (pc := 19) g_X10_15 (LK_10 h0 h_a0) rfl (LR_10_2 h0 h_a0) d_X10_hangsOn_19 ?_
        refine r_iload_n (pc := 22) 1 d_X10_hangsOn_22 rfl rfl ?_
        refine r_ck (f := (oP Sh D)) rfl (fun hc8 => ?_)
        refine q_iald (pc := 23) (j := v1.toNatClampNeg) (LA_10_2 h0 h_a0) hc8 rfl d_X10_hangsOn_23 ?_
        refine r_iload_n (pc := 24) 2 d_X10_hangsOn_24 rfl rfl ?_
        refine r_ishr (pc := 25) d_X10_hangsOn_25 ?_
        refine r_iconst (pc := 26) (1 : Int32) d_X10_hangsOn_26 rfl ?_
        refine r_iand (pc := 27) d_X10_hangsOn_27 ?_
        refine r_goto (pc := 28) 32 d_X10_hangsOn_28 (by decide) ?_
        refine r_pick [0, 1, 2] (ls' := [(0, .ref a0), (1, .int v1), (2, .int v2)]) rfl ?_
        exact s_X10_hangsOn_32 hst h0 hd h_a0 D (fn_X10_hangsOn_2 a0 v1 D n) hk2 v2 (((gI D (a0 + 2) v1.toNatClampNeg) >>> (v2 &&& 31)) &&& (1 : Int32))
theorem s_X10_hangsOn {X : zX} {Sh : zSh} {d : Nat} (hst : (zl X).stackTraces = false) (h0 : zSh0 Sh) (hd : 3 ≤ d) {a0 : Nat} {v1 : Int32} (h_a0 : a0 ∈ zI_10) {D : zD} : Sd X m_X10_hangsOn d [.ref a0, .int v1] (Sh, D) ((oP Sh D) (fn_X10_hangsOn a0 v1 D)) := by
  obtain ⟨d, rfl⟩ : ∃ e, d = e + 1 := ⟨d - 1, by omega⟩
  replace hd : 2 ≤ d := by omega
  refine z_body ck_X10_hangsOn rfl (Nat.le_of_ble_eq_true rfl) rfl hst ?_
  rw [fn_X10_hangsOn]
  show Rn X m_X10_hangsOn (d + 1) 0 [(0, .ref a0), (1, .int v1)] [] (Sh, D) _
  refine r_iconst (pc := 0) (0 : Int32) d_X10_hangsOn_0 rfl ?_
  refine r_istore_n (pc := 1) (ls' := [(2, .int (0 : Int32)), (0, .ref a0), (1, .int v1)]) d_X10_hangsOn_1 rfl (Nat.le_of_ble_eq_true rfl) rfl ?_
  refine r_pick [1, 2, 0] (ls' := [(0, .ref a0), (1, .int v1), (2, .int (0 : Int32))]) rfl ?_
  exact s_X10_hangsOn_2 hst h0 hd h_a0 D zFU  (0 : Int32)
/-! CoveredSigns$Tangle.pairsWith -/
theorem d_X10_pairsWith_0 : decode (yB m_X10_pairsWith) 0 = .ok (.aload_n 0, 1) := by decide +kernel
theorem d_X10_pairsWith_1 : decode (yB m_X10_pairsWith) 1 = .ok (.iload_n 1, 1) := by decide +kernel
theorem d_X10_pairsWith_2 : decode (yB m_X10_pairsWith) 2 = .ok (.invokevirtual 64, 3) := by decide +kernel
theorem d_X10_pairsWith_5 : decode (yB m_X10_pairsWith) 5 = .ok (.ifCond .ne 8, 3) := by decide +kernel
theorem d_X10_pairsWith_8 : decode (yB m_X10_pairsWith) 8 = .ok (.aload_n 0, 1) := by decide +kernel
theorem d_X10_pairsWith_9 : decode (yB m_X10_pairsWith) 9 = .ok (.getfield 47, 3) := by decide +kernel
theorem d_X10_pairsWith_12 : decode (yB m_X10_pairsWith) 12 = .ok (.ireturn, 1) := by decide +kernel
theorem d_X10_pairsWith_13 : decode (yB m_X10_pairsWith) 13 = .ok (.aload_n 0, 1) := by decide +kernel
theorem d_X10_pairsWith_14 : decode (yB m_X10_pairsWith) 14 = .ok (.getfield 47, 3) := by decide +kernel
theorem d_X10_pairsWith_17 : decode (yB m_X10_pairsWith) 17 = .ok (.aload_n 0, 1) := by decide +kernel
theorem d_X10_pairsWith_18 : decode (yB m_X10_pairsWith) 18 = .ok (.iload_n 1, 1) := by decide +kernel
theorem d_X10_pairsWith_19 : decode (yB m_X10_pairsWith) 19 = .ok (.invokevirtual 85, 3) := by decide +kernel
theorem d_X10_pairsWith_22 : decode (yB m_X10_pairsWith) 22 = .ok (.isub, 1) := by decide +kernel
theorem d_X10_pairsWith_23 : decode (yB m_X10_pairsWith) 23 = .ok (.istore_n 3, 1) := by decide +kernel
theorem d_X10_pairsWith_24 : decode (yB m_X10_pairsWith) 24 = .ok (.iconst 0, 1) := by decide +kernel
theorem d_X10_pairsWith_25 : decode (yB m_X10_pairsWith) 25 = .ok (.istore 4, 2) := by decide +kernel
theorem d_X10_pairsWith_27 : decode (yB m_X10_pairsWith) 27 = .ok (.iload 4, 2) := by decide +kernel
theorem d_X10_pairsWith_29 : decode (yB m_X10_pairsWith) 29 = .ok (.aload_n 0, 1) := by decide +kernel
theorem d_X10_pairsWith_30 : decode (yB m_X10_pairsWith) 30 = .ok (.getfield 37, 3) := by decide +kernel
theorem d_X10_pairsWith_33 : decode (yB m_X10_pairsWith) 33 = .ok (.if_icmp .ge 41, 3) := by decide +kernel
theorem d_X10_pairsWith_36 : decode (yB m_X10_pairsWith) 36 = .ok (.iload 4, 2) := by decide +kernel
theorem d_X10_pairsWith_38 : decode (yB m_X10_pairsWith) 38 = .ok (.bipush 12, 2) := by decide +kernel
theorem d_X10_pairsWith_40 : decode (yB m_X10_pairsWith) 40 = .ok (.if_icmp .ge 34, 3) := by decide +kernel
theorem d_X10_pairsWith_43 : decode (yB m_X10_pairsWith) 43 = .ok (.iload 4, 2) := by decide +kernel
theorem d_X10_pairsWith_45 : decode (yB m_X10_pairsWith) 45 = .ok (.iload_n 1, 1) := by decide +kernel
theorem d_X10_pairsWith_46 : decode (yB m_X10_pairsWith) 46 = .ok (.if_icmp .eq 22, 3) := by decide +kernel
theorem d_X10_pairsWith_49 : decode (yB m_X10_pairsWith) 49 = .ok (.iload_n 3, 1) := by decide +kernel
theorem d_X10_pairsWith_50 : decode (yB m_X10_pairsWith) 50 = .ok (.aload_n 0, 1) := by decide +kernel
theorem d_X10_pairsWith_51 : decode (yB m_X10_pairsWith) 51 = .ok (.getfield 18, 3) := by decide +kernel
theorem d_X10_pairsWith_54 : decode (yB m_X10_pairsWith) 54 = .ok (.iload_n 1, 1) := by decide +kernel
theorem d_X10_pairsWith_55 : decode (yB m_X10_pairsWith) 55 = .ok (.bipush 12, 2) := by decide +kernel
theorem d_X10_pairsWith_57 : decode (yB m_X10_pairsWith) 57 = .ok (.imul, 1) := by decide +kernel
theorem d_X10_pairsWith_58 : decode (yB m_X10_pairsWith) 58 = .ok (.iload 4, 2) := by decide +kernel
theorem d_X10_pairsWith_60 : decode (yB m_X10_pairsWith) 60 = .ok (.iadd, 1) := by decide +kernel
theorem d_X10_pairsWith_61 : decode (yB m_X10_pairsWith) 61 = .ok (.iaload, 1) := by decide +kernel
theorem d_X10_pairsWith_62 : decode (yB m_X10_pairsWith) 62 = .ok (.iload_n 2, 1) := by decide +kernel
theorem d_X10_pairsWith_63 : decode (yB m_X10_pairsWith) 63 = .ok (.ishr, 1) := by decide +kernel
theorem d_X10_pairsWith_64 : decode (yB m_X10_pairsWith) 64 = .ok (.iconst 1, 1) := by decide +kernel
theorem d_X10_pairsWith_65 : decode (yB m_X10_pairsWith) 65 = .ok (.iand, 1) := by decide +kernel
theorem d_X10_pairsWith_66 : decode (yB m_X10_pairsWith) 66 = .ok (.iadd, 1) := by decide +kernel
theorem d_X10_pairsWith_67 : decode (yB m_X10_pairsWith) 67 = .ok (.istore_n 3, 1) := by decide +kernel
theorem d_X10_pairsWith_68 : decode (yB m_X10_pairsWith) 68 = .ok (.iinc 4 1, 3) := by decide +kernel
theorem d_X10_pairsWith_71 : decode (yB m_X10_pairsWith) 71 = .ok (.goto (-44), 3) := by decide +kernel
theorem d_X10_pairsWith_74 : decode (yB m_X10_pairsWith) 74 = .ok (.iload_n 3, 1) := by decide +kernel
theorem d_X10_pairsWith_75 : decode (yB m_X10_pairsWith) 75 = .ok (.ireturn, 1) := by decide +kernel
def fn_X10_pairsWith_27 (a0 : Nat) (v1 : Int32) (v2 : Int32) (D : zD) : Nat → Int32 → Int32 → Option Int32
  | 0, _, _ => none
  | n + 1, v3, v4 => (if (gI D a0 4) ≤ v4 then ((some v3)) else ((if (12 : Int32) ≤ v4 then ((some v3)) else ((if v4 = v1 then (((fn_X10_pairsWith_27 a0 v1 v2 D n) v3 (v4 + (1 : Int32)))) else (zck ((v1 * (12 : Int32)) + v4) 144 <| zlet (v3 + (((gI D (a0 + 3) ((v1 * (12 : Int32)) + v4).toNatClampNeg) >>> (v2 &&& 31)) &&& (1 : Int32))) fun x9 => ((fn_X10_pairsWith_27 a0 v1 v2 D n) x9 (v4 + (1 : Int32)))))))))
def fn_X10_pairsWith (a0 : Nat) (v1 : Int32) (v2 : Int32) (D : zD) : Option Int32 := (fn_X10_isSign a0 v1 D).bind fun x1 => (if x1 = 0 then ((some (gI D a0 7))) else ((fn_X10_degree a0 v1 D).bind fun x3 => zlet ((gI D a0 7) - x3) fun x4 => (fn_X10_pairsWith_27 a0 v1 v2 D zFU x4 (0 : Int32))))
theorem s_X10_pairsWith_27 {X : zX} {Sh : zSh} {d : Nat} (hst : (zl X).stackTraces = false) (h0 : zSh0 Sh) (hd : 2 ≤ d) {a0 : Nat} {v1 : Int32} {v2 : Int32} (h_a0 : a0 ∈ zI_10) (D : zD) : ∀ (n : Nat) (v3 : Int32) (v4 : Int32) , Rn X m_X10_pairsWith (d + 1) 27 [(0, .ref a0), (1, .int v1), (2, .int v2), (3, .int v3), (4, .int v4)] [] (Sh, D) ((oP Sh D) (fn_X10_pairsWith_27 a0 v1 v2 D n v3 v4)) := by
  intro n
  induction n with
  | zero => intro v3 v4; exact Rn_none rfl
  | succ n hk27 =>
    intro v3 v4
    rw [fn_X10_pairsWith_27]
    refine r_iload (pc := 27) 4 d_X10_pairsWith_27 rfl ?_
    refine r_aload_n (pc := 29) 0 d_X10_pairsWith_29 rfl rfl ?_
    refine q_gI (pc := 30) g_X10_37 (LK_10 h0 h_a0) rfl d_X10_pairsWith_30 ?_
    refine r_icmp_ge (f := (oP Sh D)) (pc := 33) 74 d_X10_pairsWith_33 (by decide) (fun c5 => ?_) (fun c5 => ?_)
    · refine r_iload_n (pc := 74) 3 d_X10_pairsWith_74 rfl rfl ?_
      exact r_iret (pc := 75) rfl d_X10_pairsWith_75
    · refine r_iload (pc := 36) 4 d_X10_pairsWith_36 rfl ?_
      refine r_bipush (pc := 38) (12 : Int32) d_X10_pairsWith_38 rfl ?_
      refine r_icmp_ge (f := (oP Sh D)) (pc := 40) 74 d_X10_pairsWith_40 (by decide) (fun c6 => ?_) (fun c6 => ?_)
      · refine r_iload_n (pc := 74) 3 d_X10_pairsWith_74 rfl rfl ?_
        exact r_iret (pc := 75) rfl d_X10_pairsWith_75
      · refine r_iload (pc := 43) 4 d_X10_pairsWith_43 rfl ?_
        refine r_iload_n (pc := 45) 1 d_X10_pairsWith_45 rfl rfl ?_
        refine r_icmp_eq (f := (oP Sh D)) (pc := 46) 68 d_X10_pairsWith_46 (by decide) (fun c7 => ?_) (fun c7 => ?_)
        · refine r_iinc (pc := 68) ((v4 + (1 : Int32))) 4 (ls' := [(4, .int (v4 + (1 : Int32))), (0, .ref a0), (1, .int v1), (2, .int v2), (3, .int v3)]) d_X10_pairsWith_68 rfl rfl (Nat.le_of_ble_eq_true rfl) rfl ?_
          refine r_goto (pc := 71) 27 d_X10_pairsWith_71 (by decide) ?_
          refine r_pick [1, 2, 3, 4, 0] (ls' := [(0, .ref a0), (1, .int v1), (2, .int v2), (3, .int v3), (4, .int (v4 + (1 : Int32)))]) rfl ?_
          exact hk27 v3 (v4 + (1 : Int32)) 
        · refine r_iload_n (pc := 49) 3 d_X10_pairsWith_49 rfl rfl ?_
          refine r_aload_n (pc := 50) 0 d_X10_pairsWith_50 rfl rfl ?_
          refine r_getR (pc := 51) g_X10_18 (LK_10 h0 h_a0) rfl (LR_10_3 h0 h_a0) d_X10_pairsWith_51 ?_
          refine r_iload_n (pc := 54) 1 d_X10_pairsWith_54 rfl rfl ?_
          refine r_bipush (pc := 55) (12 : Int32) d_X10_pairsWith_55 rfl ?_
          refine r_imul (pc := 57) d_X10_pairsWith_57 ?_
          refine r_iload (pc := 58) 4 d_X10_pairsWith_58 rfl ?_
          refine r_iadd (pc := 60) d_X10_pairsWith_60 ?_
          refine r_ck (f := (oP Sh D)) rfl (fun hc8 => ?_)
          refine q_iald (pc := 61) (j := ((v1 * (12 : Int32)) + v4).toNatClampNeg) (LA_10_3 h0 h_a0) hc8 rfl d_X10_pairsWith_61 ?_
          refine r_iload_n (pc := 62) 2 d_X10_pairsWith_62 rfl rfl ?_
          refine r_ishr (pc := 63) d_X10_pairsWith_63 ?_
          refine r_iconst (pc := 64) (1 : Int32) d_X10_pairsWith_64 rfl ?_
          refine r_iand (pc := 65) d_X10_pairsWith_65 ?_
          refine r_iadd (pc := 66) d_X10_pairsWith_66 ?_
          refine r_leti (f := (oP Sh D)) (fun x9 => ?_)
          refine r_istore_n (pc := 67) (ls' := [(3, .int x9), (0, .ref a0), (1, .int v1), (2, .int v2), (4, .int v4)]) d_X10_pairsWith_67 rfl (Nat.le_of_ble_eq_true rfl) rfl ?_
          refine r_iinc (pc := 68) ((v4 + (1 : Int32))) 4 (ls' := [(4, .int (v4 + (1 : Int32))), (3, .int x9), (0, .ref a0), (1, .int v1), (2, .int v2)]) d_X10_pairsWith_68 rfl rfl (Nat.le_of_ble_eq_true rfl) rfl ?_
          refine r_goto (pc := 71) 27 d_X10_pairsWith_71 (by decide) ?_
          refine r_pick [2, 3, 4, 1, 0] (ls' := [(0, .ref a0), (1, .int v1), (2, .int v2), (3, .int x9), (4, .int (v4 + (1 : Int32)))]) rfl ?_
          exact hk27 x9 (v4 + (1 : Int32)) 
theorem s_X10_pairsWith {X : zX} {Sh : zSh} {d : Nat} (hst : (zl X).stackTraces = false) (h0 : zSh0 Sh) (hd : 3 ≤ d) {a0 : Nat} {v1 : Int32} {v2 : Int32} (h_a0 : a0 ∈ zI_10) {D : zD} : Sd X m_X10_pairsWith d [.ref a0, .int v1, .int v2] (Sh, D) ((oP Sh D) (fn_X10_pairsWith a0 v1 v2 D)) := by
  obtain ⟨d, rfl⟩ : ∃ e, d = e + 1 := ⟨d - 1, by omega⟩
  replace hd : 2 ≤ d := by omega
  refine z_body ck_X10_pairsWith rfl (Nat.le_of_ble_eq_true rfl) rfl hst ?_
  rw [fn_X10_pairsWith]
  show Rn X m_X10_pairsWith (d + 1) 0 [(0, .ref a0), (1, .int v1), (2, .int v2)] [] (Sh, D) _
  refine r_aload_n (pc := 0) 0 d_X10_pairsWith_0 rfl rfl ?_
  refine r_iload_n (pc := 1) 1 d_X10_pairsWith_1 rfl rfl ?_
  refine q_cP (f := (oP Sh D)) (av := [.ref a0, .int v1]) (st := []) (z_runV ck_X10_isSign rfl ml_X10_64 ci_X10_isSign cv_X10_isSign (LK_10 h0 h_a0) (ci := 10) rfl rfl (Nat.le_of_ble_eq_true rfl) d_X10_pairsWith_2) (s_X10_isSign hst h0 (by omega) h_a0) kp_P (fun x1 _ => ?_)
  refine r_if_ne (f := (oP Sh D)) (pc := 5) 13 d_X10_pairsWith_5 (by decide) (fun c2 => ?_) (fun c2 => ?_)
  · refine r_aload_n (pc := 13) 0 d_X10_pairsWith_13 rfl rfl ?_
    refine q_gI (pc := 14) g_X10_47 (LK_10 h0 h_a0) rfl d_X10_pairsWith_14 ?_
    refine r_aload_n (pc := 17) 0 d_X10_pairsWith_17 rfl rfl ?_
    refine r_iload_n (pc := 18) 1 d_X10_pairsWith_18 rfl rfl ?_
    refine q_cP (f := (oP Sh D)) (av := [.ref a0, .int v1]) (st := [.int (gI D a0 7)]) (z_runV ck_X10_degree rfl ml_X10_85 ci_X10_degree cv_X10_degree (LK_10 h0 h_a0) (ci := 10) rfl rfl (Nat.le_of_ble_eq_true rfl) d_X10_pairsWith_19) (s_X10_degree hst h0 (by omega) h_a0) kp_P (fun x3 _ => ?_)
    refine r_isub (pc := 22) d_X10_pairsWith_22 ?_
    refine r_leti (f := (oP Sh D)) (fun x4 => ?_)
    refine r_istore_n (pc := 23) (ls' := [(3, .int x4), (0, .ref a0), (1, .int v1), (2, .int v2)]) d_X10_pairsWith_23 rfl (Nat.le_of_ble_eq_true rfl) rfl ?_
    refine r_iconst (pc := 24) (0 : Int32) d_X10_pairsWith_24 rfl ?_
    refine r_istore (pc := 25) (ls' := [(4, .int (0 : Int32)), (3, .int x4), (0, .ref a0), (1, .int v1), (2, .int v2)]) d_X10_pairsWith_25 (Nat.le_of_ble_eq_true rfl) rfl ?_
    refine r_pick [2, 3, 4, 1, 0] (ls' := [(0, .ref a0), (1, .int v1), (2, .int v2), (3, .int x4), (4, .int (0 : Int32))]) rfl ?_
    exact s_X10_pairsWith_27 hst h0 hd h_a0 D zFU  x4 (0 : Int32)
  · refine r_aload_n (pc := 8) 0 d_X10_pairsWith_8 rfl rfl ?_
    refine q_gI (pc := 9) g_X10_47 (LK_10 h0 h_a0) rfl d_X10_pairsWith_9 ?_
    exact r_iret (pc := 12) rfl d_X10_pairsWith_12
/-! CoveredSigns$Tangle.pairUp -/
theorem d_X10_pairUp_0 : decode (yB m_X10_pairUp) 0 = .ok (.aload_n 0, 1) := by decide +kernel
theorem d_X10_pairUp_1 : decode (yB m_X10_pairUp) 1 = .ok (.iload_n 1, 1) := by decide +kernel
theorem d_X10_pairUp_2 : decode (yB m_X10_pairUp) 2 = .ok (.invokevirtual 64, 3) := by decide +kernel
theorem d_X10_pairUp_5 : decode (yB m_X10_pairUp) 5 = .ok (.ifCond .ne 10, 3) := by decide +kernel
theorem d_X10_pairUp_8 : decode (yB m_X10_pairUp) 8 = .ok (.iload_n 3, 1) := by decide +kernel
theorem d_X10_pairUp_9 : decode (yB m_X10_pairUp) 9 = .ok (.iload 4, 2) := by decide +kernel
theorem d_X10_pairUp_11 : decode (yB m_X10_pairUp) 11 = .ok (.invokestatic 92, 3) := by decide +kernel
theorem d_X10_pairUp_14 : decode (yB m_X10_pairUp) 14 = .ok (.ireturn, 1) := by decide +kernel
theorem d_X10_pairUp_15 : decode (yB m_X10_pairUp) 15 = .ok (.iconst 1, 1) := by decide +kernel
theorem d_X10_pairUp_16 : decode (yB m_X10_pairUp) 16 = .ok (.aload_n 0, 1) := by decide +kernel
theorem d_X10_pairUp_17 : decode (yB m_X10_pairUp) 17 = .ok (.getfield 37, 3) := by decide +kernel
theorem d_X10_pairUp_20 : decode (yB m_X10_pairUp) 20 = .ok (.ishl, 1) := by decide +kernel
theorem d_X10_pairUp_21 : decode (yB m_X10_pairUp) 21 = .ok (.iconst 1, 1) := by decide +kernel
theorem d_X10_pairUp_22 : decode (yB m_X10_pairUp) 22 = .ok (.isub, 1) := by decide +kernel
theorem d_X10_pairUp_23 : decode (yB m_X10_pairUp) 23 = .ok (.iload_n 2, 1) := by decide +kernel
theorem d_X10_pairUp_24 : decode (yB m_X10_pairUp) 24 = .ok (.iconst (-1), 1) := by decide +kernel
theorem d_X10_pairUp_25 : decode (yB m_X10_pairUp) 25 = .ok (.ixor, 1) := by decide +kernel
theorem d_X10_pairUp_26 : decode (yB m_X10_pairUp) 26 = .ok (.iand, 1) := by decide +kernel
theorem d_X10_pairUp_27 : decode (yB m_X10_pairUp) 27 = .ok (.iconst 1, 1) := by decide +kernel
theorem d_X10_pairUp_28 : decode (yB m_X10_pairUp) 28 = .ok (.iload_n 1, 1) := by decide +kernel
theorem d_X10_pairUp_29 : decode (yB m_X10_pairUp) 29 = .ok (.ishl, 1) := by decide +kernel
theorem d_X10_pairUp_30 : decode (yB m_X10_pairUp) 30 = .ok (.ineg, 1) := by decide +kernel
theorem d_X10_pairUp_31 : decode (yB m_X10_pairUp) 31 = .ok (.iand, 1) := by decide +kernel
theorem d_X10_pairUp_32 : decode (yB m_X10_pairUp) 32 = .ok (.istore 5, 2) := by decide +kernel
theorem d_X10_pairUp_34 : decode (yB m_X10_pairUp) 34 = .ok (.iload_n 3, 1) := by decide +kernel
theorem d_X10_pairUp_35 : decode (yB m_X10_pairUp) 35 = .ok (.iload 5, 2) := by decide +kernel
theorem d_X10_pairUp_37 : decode (yB m_X10_pairUp) 37 = .ok (.invokestatic 80, 3) := by decide +kernel
theorem d_X10_pairUp_40 : decode (yB m_X10_pairUp) 40 = .ok (.iconst 2, 1) := by decide +kernel
theorem d_X10_pairUp_41 : decode (yB m_X10_pairUp) 41 = .ok (.idiv, 1) := by decide +kernel
theorem d_X10_pairUp_42 : decode (yB m_X10_pairUp) 42 = .ok (.iadd, 1) := by decide +kernel
theorem d_X10_pairUp_43 : decode (yB m_X10_pairUp) 43 = .ok (.iload 4, 2) := by decide +kernel
theorem d_X10_pairUp_45 : decode (yB m_X10_pairUp) 45 = .ok (.if_icmp .gt 6, 3) := by decide +kernel
theorem d_X10_pairUp_48 : decode (yB m_X10_pairUp) 48 = .ok (.iload 4, 2) := by decide +kernel
theorem d_X10_pairUp_50 : decode (yB m_X10_pairUp) 50 = .ok (.ireturn, 1) := by decide +kernel
theorem d_X10_pairUp_51 : decode (yB m_X10_pairUp) 51 = .ok (.iload 4, 2) := by decide +kernel
theorem d_X10_pairUp_53 : decode (yB m_X10_pairUp) 53 = .ok (.istore 6, 2) := by decide +kernel
theorem d_X10_pairUp_55 : decode (yB m_X10_pairUp) 55 = .ok (.iload_n 2, 1) := by decide +kernel
theorem d_X10_pairUp_56 : decode (yB m_X10_pairUp) 56 = .ok (.iload_n 1, 1) := by decide +kernel
theorem d_X10_pairUp_57 : decode (yB m_X10_pairUp) 57 = .ok (.ishr, 1) := by decide +kernel
theorem d_X10_pairUp_58 : decode (yB m_X10_pairUp) 58 = .ok (.iconst 1, 1) := by decide +kernel
theorem d_X10_pairUp_59 : decode (yB m_X10_pairUp) 59 = .ok (.iand, 1) := by decide +kernel
theorem d_X10_pairUp_60 : decode (yB m_X10_pairUp) 60 = .ok (.ifCond .eq 7, 3) := by decide +kernel
theorem d_X10_pairUp_63 : decode (yB m_X10_pairUp) 63 = .ok (.iconst 0, 1) := by decide +kernel
theorem d_X10_pairUp_64 : decode (yB m_X10_pairUp) 64 = .ok (.goto 12, 3) := by decide +kernel
theorem d_X10_pairUp_67 : decode (yB m_X10_pairUp) 67 = .ok (.aload_n 0, 1) := by decide +kernel
theorem d_X10_pairUp_68 : decode (yB m_X10_pairUp) 68 = .ok (.getfield 15, 3) := by decide +kernel
theorem d_X10_pairUp_71 : decode (yB m_X10_pairUp) 71 = .ok (.iload_n 1, 1) := by decide +kernel
theorem d_X10_pairUp_72 : decode (yB m_X10_pairUp) 72 = .ok (.iaload, 1) := by decide +kernel
theorem d_X10_pairUp_73 : decode (yB m_X10_pairUp) 73 = .ok (.iload 5, 2) := by decide +kernel
theorem d_X10_pairUp_75 : decode (yB m_X10_pairUp) 75 = .ok (.iand, 1) := by decide +kernel
theorem d_X10_pairUp_76 : decode (yB m_X10_pairUp) 76 = .ok (.istore 7, 2) := by decide +kernel
theorem d_X10_pairUp_78 : decode (yB m_X10_pairUp) 78 = .ok (.iload_n 1, 1) := by decide +kernel
theorem d_X10_pairUp_79 : decode (yB m_X10_pairUp) 79 = .ok (.iconst 1, 1) := by decide +kernel
theorem d_X10_pairUp_80 : decode (yB m_X10_pairUp) 80 = .ok (.iadd, 1) := by decide +kernel
theorem d_X10_pairUp_81 : decode (yB m_X10_pairUp) 81 = .ok (.istore 8, 2) := by decide +kernel
theorem d_X10_pairUp_83 : decode (yB m_X10_pairUp) 83 = .ok (.iload 8, 2) := by decide +kernel
theorem d_X10_pairUp_85 : decode (yB m_X10_pairUp) 85 = .ok (.aload_n 0, 1) := by decide +kernel
theorem d_X10_pairUp_86 : decode (yB m_X10_pairUp) 86 = .ok (.getfield 37, 3) := by decide +kernel
theorem d_X10_pairUp_89 : decode (yB m_X10_pairUp) 89 = .ok (.if_icmp .ge 43, 3) := by decide +kernel
theorem d_X10_pairUp_92 : decode (yB m_X10_pairUp) 92 = .ok (.iload 7, 2) := by decide +kernel
theorem d_X10_pairUp_94 : decode (yB m_X10_pairUp) 94 = .ok (.iload 8, 2) := by decide +kernel
theorem d_X10_pairUp_96 : decode (yB m_X10_pairUp) 96 = .ok (.ishr, 1) := by decide +kernel
theorem d_X10_pairUp_97 : decode (yB m_X10_pairUp) 97 = .ok (.iconst 1, 1) := by decide +kernel
theorem d_X10_pairUp_98 : decode (yB m_X10_pairUp) 98 = .ok (.iand, 1) := by decide +kernel
theorem d_X10_pairUp_99 : decode (yB m_X10_pairUp) 99 = .ok (.ifCond .eq 27, 3) := by decide +kernel
theorem d_X10_pairUp_102 : decode (yB m_X10_pairUp) 102 = .ok (.aload_n 0, 1) := by decide +kernel
theorem d_X10_pairUp_103 : decode (yB m_X10_pairUp) 103 = .ok (.iload_n 1, 1) := by decide +kernel
theorem d_X10_pairUp_104 : decode (yB m_X10_pairUp) 104 = .ok (.iconst 1, 1) := by decide +kernel
theorem d_X10_pairUp_105 : decode (yB m_X10_pairUp) 105 = .ok (.iadd, 1) := by decide +kernel
theorem d_X10_pairUp_106 : decode (yB m_X10_pairUp) 106 = .ok (.iload_n 2, 1) := by decide +kernel
theorem d_X10_pairUp_107 : decode (yB m_X10_pairUp) 107 = .ok (.iconst 1, 1) := by decide +kernel
theorem d_X10_pairUp_108 : decode (yB m_X10_pairUp) 108 = .ok (.iload_n 1, 1) := by decide +kernel
theorem d_X10_pairUp_109 : decode (yB m_X10_pairUp) 109 = .ok (.ishl, 1) := by decide +kernel
theorem d_X10_pairUp_110 : decode (yB m_X10_pairUp) 110 = .ok (.ior, 1) := by decide +kernel
theorem d_X10_pairUp_111 : decode (yB m_X10_pairUp) 111 = .ok (.iconst 1, 1) := by decide +kernel
theorem d_X10_pairUp_112 : decode (yB m_X10_pairUp) 112 = .ok (.iload 8, 2) := by decide +kernel
theorem d_X10_pairUp_114 : decode (yB m_X10_pairUp) 114 = .ok (.ishl, 1) := by decide +kernel
theorem d_X10_pairUp_115 : decode (yB m_X10_pairUp) 115 = .ok (.ior, 1) := by decide +kernel
theorem d_X10_pairUp_116 : decode (yB m_X10_pairUp) 116 = .ok (.iload_n 3, 1) := by decide +kernel
theorem d_X10_pairUp_117 : decode (yB m_X10_pairUp) 117 = .ok (.iconst 1, 1) := by decide +kernel
theorem d_X10_pairUp_118 : decode (yB m_X10_pairUp) 118 = .ok (.iadd, 1) := by decide +kernel
theorem d_X10_pairUp_119 : decode (yB m_X10_pairUp) 119 = .ok (.iload 6, 2) := by decide +kernel
theorem d_X10_pairUp_121 : decode (yB m_X10_pairUp) 121 = .ok (.invokevirtual 88, 3) := by decide +kernel
theorem d_X10_pairUp_124 : decode (yB m_X10_pairUp) 124 = .ok (.istore 6, 2) := by decide +kernel
theorem d_X10_pairUp_126 : decode (yB m_X10_pairUp) 126 = .ok (.iinc 8 1, 3) := by decide +kernel
theorem d_X10_pairUp_129 : decode (yB m_X10_pairUp) 129 = .ok (.goto (-46), 3) := by decide +kernel
theorem d_X10_pairUp_132 : decode (yB m_X10_pairUp) 132 = .ok (.aload_n 0, 1) := by decide +kernel
theorem d_X10_pairUp_133 : decode (yB m_X10_pairUp) 133 = .ok (.iload_n 1, 1) := by decide +kernel
theorem d_X10_pairUp_134 : decode (yB m_X10_pairUp) 134 = .ok (.iconst 1, 1) := by decide +kernel
theorem d_X10_pairUp_135 : decode (yB m_X10_pairUp) 135 = .ok (.iadd, 1) := by decide +kernel
theorem d_X10_pairUp_136 : decode (yB m_X10_pairUp) 136 = .ok (.iload_n 2, 1) := by decide +kernel
theorem d_X10_pairUp_137 : decode (yB m_X10_pairUp) 137 = .ok (.iconst 1, 1) := by decide +kernel
theorem d_X10_pairUp_138 : decode (yB m_X10_pairUp) 138 = .ok (.iload_n 1, 1) := by decide +kernel
theorem d_X10_pairUp_139 : decode (yB m_X10_pairUp) 139 = .ok (.ishl, 1) := by decide +kernel
theorem d_X10_pairUp_140 : decode (yB m_X10_pairUp) 140 = .ok (.ior, 1) := by decide +kernel
theorem d_X10_pairUp_141 : decode (yB m_X10_pairUp) 141 = .ok (.iload_n 3, 1) := by decide +kernel
theorem d_X10_pairUp_142 : decode (yB m_X10_pairUp) 142 = .ok (.iload 6, 2) := by decide +kernel
theorem d_X10_pairUp_144 : decode (yB m_X10_pairUp) 144 = .ok (.invokevirtual 88, 3) := by decide +kernel
theorem d_X10_pairUp_147 : decode (yB m_X10_pairUp) 147 = .ok (.ireturn, 1) := by decide +kernel
def fn_X10_pairUp_132 (f_X10_pairUp : Nat → Int32 → Int32 → Int32 → Int32 → zD → Option Int32) (a0 : Nat) (v1 : Int32) (v2 : Int32) (v3 : Int32) (v4 : Int32) (D : zD) (v6 : Int32) : Option Int32 := (f_X10_pairUp a0 (v1 + (1 : Int32)) (v2 ||| ((1 : Int32) <<< (v1 &&& 31))) v3 v6 D).bind fun x11 => (some x11)
def fn_X10_pairUp_83 (f_X10_pairUp : Nat → Int32 → Int32 → Int32 → Int32 → zD → Option Int32) (a0 : Nat) (v1 : Int32) (v2 : Int32) (v3 : Int32) (v4 : Int32) (D : zD) : Nat → Int32 → Int32 → Int32 → Option Int32
  | 0, _, _, _ => none
  | n + 1, v6, v7, v8 => (if (gI D a0 4) ≤ v8 then ((fn_X10_pairUp_132 f_X10_pairUp a0 v1 v2 v3 v4 D v6)) else ((if ((v7 >>> (v8 &&& 31)) &&& (1 : Int32)) = 0 then (((fn_X10_pairUp_83 f_X10_pairUp a0 v1 v2 v3 v4 D n) v6 v7 (v8 + (1 : Int32)))) else ((f_X10_pairUp a0 (v1 + (1 : Int32)) ((v2 ||| ((1 : Int32) <<< (v1 &&& 31))) ||| ((1 : Int32) <<< (v8 &&& 31))) (v3 + (1 : Int32)) v6 D).bind fun x13 => ((fn_X10_pairUp_83 f_X10_pairUp a0 v1 v2 v3 v4 D n) x13 v7 (v8 + (1 : Int32)))))))
def fn_X10_pairUp (f_X10_pairUp : Nat → Int32 → Int32 → Int32 → Int32 → zD → Option Int32) (a0 : Nat) (v1 : Int32) (v2 : Int32) (v3 : Int32) (v4 : Int32) (D : zD) : Option Int32 := (fn_X10_isSign a0 v1 D).bind fun x1 => (if x1 = 0 then ((some (zmx v3 v4))) else (zlet (((((1 : Int32) <<< ((gI D a0 4) &&& 31)) - (1 : Int32)) &&& (v2 ^^^ (-1 : Int32))) &&& (-((1 : Int32) <<< (v1 &&& 31)))) fun x3 => (fn_JI_bitCount x3).bind fun x4 => zdv (2 : Int32) <| (if v4 < (v3 + (x4 / (2 : Int32))) then ((if ((v2 >>> (v1 &&& 31)) &&& (1 : Int32)) = 0 then (zck v1 12 <| zlet ((gI D (a0 + 2) v1.toNatClampNeg) &&& x3) fun x8 => zlet (v1 + (1 : Int32)) fun x9 => (fn_X10_pairUp_83 f_X10_pairUp a0 v1 v2 v3 v4 D zFU v4 x8 x9)) else (zlet (v1 + (1 : Int32)) fun x14 => (fn_X10_pairUp_83 f_X10_pairUp a0 v1 v2 v3 v4 D zFU v4 (0 : Int32) x14)))) else ((some v4)))))
theorem s_X10_pairUp_132 {X : zX} {Sh : zSh} {d : Nat} (hst : (zl X).stackTraces = false) (h0 : zSh0 Sh) (hd : 1 ≤ d) {a0 : Nat} {v1 : Int32} {v2 : Int32} {v3 : Int32} {v4 : Int32} (f_X10_pairUp : Nat → Int32 → Int32 → Int32 → Int32 → zD → Option Int32) (hf_X10_pairUp : ∀ (a0 : Nat) (v1 : Int32) (v2 : Int32) (v3 : Int32) (v4 : Int32) (D : zD) (h_a0 : a0 ∈ zI_10), Sd X m_X10_pairUp d [.ref a0, .int v1, .int v2, .int v3, .int v4] (Sh, D) ((oP Sh D) (f_X10_pairUp a0 v1 v2 v3 v4 D))) (h_a0 : a0 ∈ zI_10) (D : zD) (v6 : Int32)  : Rn X m_X10_pairUp (d + 1) 132 [(0, .ref a0), (1, .int v1), (2, .int v2), (3, .int v3), (6, .int v6)] [] (Sh, D) ((oP Sh D) (fn_X10_pairUp_132 f_X10_pairUp a0 v1 v2 v3 v4 D v6)) := by
  rw [fn_X10_pairUp_132]
  refine r_aload_n (pc := 132) 0 d_X10_pairUp_132 rfl rfl ?_
  refine r_iload_n (pc := 133) 1 d_X10_pairUp_133 rfl rfl ?_
  refine r_iconst (pc := 134) (1 : Int32) d_X10_pairUp_134 rfl ?_
  refine r_iadd (pc := 135) d_X10_pairUp_135 ?_
  refine r_iload_n (pc := 136) 2 d_X10_pairUp_136 rfl rfl ?_
  refine r_iconst (pc := 137) (1 : Int32) d_X10_pairUp_137 rfl ?_
  refine r_iload_n (pc := 138) 1 d_X10_pairUp_138 rfl rfl ?_
  refine r_ishl (pc := 139) d_X10_pairUp_139 ?_
  refine r_ior (pc := 140) d_X10_pairUp_140 ?_
  refine r_iload_n (pc := 141) 3 d_X10_pairUp_141 rfl rfl ?_
  refine r_iload (pc := 142) 4 d_X10_pairUp_142 rfl ?_
  refine q_cP (f := (oP Sh D)) (av := [.ref a0, .int (v1 + (1 : Int32)), .int (v2 ||| ((1 : Int32) <<< (v1 &&& 31))), .int v3, .int v6]) (st := []) (z_runV ck_X10_pairUp rfl ml_X10_88 ci_X10_pairUp cv_X10_pairUp (LK_10 h0 h_a0) (ci := 10) rfl rfl (Nat.le_of_ble_eq_true rfl) d_X10_pairUp_144) (hf_X10_pairUp a0 (v1 + (1 : Int32)) (v2 ||| ((1 : Int32) <<< (v1 &&& 31))) v3 v6 D h_a0) kp_P (fun x11 _ => ?_)
  exact r_iret (pc := 147) rfl d_X10_pairUp_147
theorem s_X10_pairUp_83 {X : zX} {Sh : zSh} {d : Nat} (hst : (zl X).stackTraces = false) (h0 : zSh0 Sh) (hd : 1 ≤ d) {a0 : Nat} {v1 : Int32} {v2 : Int32} {v3 : Int32} {v4 : Int32} (f_X10_pairUp : Nat → Int32 → Int32 → Int32 → Int32 → zD → Option Int32) (hf_X10_pairUp : ∀ (a0 : Nat) (v1 : Int32) (v2 : Int32) (v3 : Int32) (v4 : Int32) (D : zD) (h_a0 : a0 ∈ zI_10), Sd X m_X10_pairUp d [.ref a0, .int v1, .int v2, .int v3, .int v4] (Sh, D) ((oP Sh D) (f_X10_pairUp a0 v1 v2 v3 v4 D))) (h_a0 : a0 ∈ zI_10) (D : zD) : ∀ (n : Nat) (v6 : Int32) (v7 : Int32) (v8 : Int32) , Rn X m_X10_pairUp (d + 1) 83 [(0, .ref a0), (1, .int v1), (2, .int v2), (3, .int v3), (6, .int v6), (7, .int v7), (8, .int v8)] [] (Sh, D) ((oP Sh D) (fn_X10_pairUp_83 f_X10_pairUp a0 v1 v2 v3 v4 D n v6 v7 v8)) := by
  intro n
  induction n with
  | zero => intro v6 v7 v8; exact Rn_none rfl
  | succ n hk83 =>
    intro v6 v7 v8
    rw [fn_X10_pairUp_83]
    refine r_iload (pc := 83) 6 d_X10_pairUp_83 rfl ?_
    refine r_aload_n (pc := 85) 0 d_X10_pairUp_85 rfl rfl ?_
    refine q_gI (pc := 86) g_X10_37 (LK_10 h0 h_a0) rfl d_X10_pairUp_86 ?_
    refine r_icmp_ge (f := (oP Sh D)) (pc := 89) 132 d_X10_pairUp_89 (by decide) (fun c10 => ?_) (fun c10 => ?_)
    · refine r_pick [0, 1, 2, 3, 4] (ls' := [(0, .ref a0), (1, .int v1), (2, .int v2), (3, .int v3), (6, .int v6)]) rfl ?_
      exact s_X10_pairUp_132 hst h0 hd f_X10_pairUp hf_X10_pairUp h_a0 D v6
    · refine r_iload (pc := 92) 5 d_X10_pairUp_92 rfl ?_
      refine r_iload (pc := 94) 6 d_X10_pairUp_94 rfl ?_
      refine r_ishr (pc := 96) d_X10_pairUp_96 ?_
      refine r_iconst (pc := 97) (1 : Int32) d_X10_pairUp_97 rfl ?_
      refine r_iand (pc := 98) d_X10_pairUp_98 ?_
      refine r_if_eq (f := (oP Sh D)) (pc := 99) 126 d_X10_pairUp_99 (by decide) (fun c12 => ?_) (fun c12 => ?_)
      · refine r_iinc (pc := 126) ((v8 + (1 : Int32))) 6 (ls' := [(8, .int (v8 + (1 : Int32))), (0, .ref a0), (1, .int v1), (2, .int v2), (3, .int v3), (6, .int v6), (7, .int v7)]) d_X10_pairUp_126 rfl rfl (Nat.le_of_ble_eq_true rfl) rfl ?_
        refine r_goto (pc := 129) 83 d_X10_pairUp_129 (by decide) ?_
        refine r_pick [1, 2, 3, 4, 5, 6, 0] (ls' := [(0, .ref a0), (1, .int v1), (2, .int v2), (3, .int v3), (6, .int v6), (7, .int v7), (8, .int (v8 + (1 : Int32)))]) rfl ?_
        exact hk83 v6 v7 (v8 + (1 : Int32)) 
      · refine r_aload_n (pc := 102) 0 d_X10_pairUp_102 rfl rfl ?_
        refine r_iload_n (pc := 103) 1 d_X10_pairUp_103 rfl rfl ?_
        refine r_iconst (pc := 104) (1 : Int32) d_X10_pairUp_104 rfl ?_
        refine r_iadd (pc := 105) d_X10_pairUp_105 ?_
        refine r_iload_n (pc := 106) 2 d_X10_pairUp_106 rfl rfl ?_
        refine r_iconst (pc := 107) (1 : Int32) d_X10_pairUp_107 rfl ?_
        refine r_iload_n (pc := 108) 1 d_X10_pairUp_108 rfl rfl ?_
        refine r_ishl (pc := 109) d_X10_pairUp_109 ?_
        refine r_ior (pc := 110) d_X10_pairUp_110 ?_
        refine r_iconst (pc := 111) (1 : Int32) d_X10_pairUp_111 rfl ?_
        refine r_iload (pc := 112) 6 d_X10_pairUp_112 rfl ?_
        refine r_ishl (pc := 114) d_X10_pairUp_114 ?_
        refine r_ior (pc := 115) d_X10_pairUp_115 ?_
        refine r_iload_n (pc := 116) 3 d_X10_pairUp_116 rfl rfl ?_
        refine r_iconst (pc := 117) (1 : Int32) d_X10_pairUp_117 rfl ?_
        refine r_iadd (pc := 118) d_X10_pairUp_118 ?_
        refine r_iload (pc := 119) 4 d_X10_pairUp_119 rfl ?_
        refine q_cP (f := (oP Sh D)) (av := [.ref a0, .int (v1 + (1 : Int32)), .int ((v2 ||| ((1 : Int32) <<< (v1 &&& 31))) ||| ((1 : Int32) <<< (v8 &&& 31))), .int (v3 + (1 : Int32)), .int v6]) (st := []) (z_runV ck_X10_pairUp rfl ml_X10_88 ci_X10_pairUp cv_X10_pairUp (LK_10 h0 h_a0) (ci := 10) rfl rfl (Nat.le_of_ble_eq_true rfl) d_X10_pairUp_121) (hf_X10_pairUp a0 (v1 + (1 : Int32)) ((v2 ||| ((1 : Int32) <<< (v1 &&& 31))) ||| ((1 : Int32) <<< (v8 &&& 31))) (v3 + (1 : Int32)) v6 D h_a0) kp_P (fun x13 _ => ?_)
        refine r_istore (pc := 124) (ls' := [(6, .int x13), (0, .ref a0), (1, .int v1), (2, .int v2), (3, .int v3), (7, .int v7), (8, .int v8)]) d_X10_pairUp_124 (Nat.le_of_ble_eq_true rfl) rfl ?_
        refine r_iinc (pc := 126) ((v8 + (1 : Int32))) 6 (ls' := [(8, .int (v8 + (1 : Int32))), (6, .int x13), (0, .ref a0), (1, .int v1), (2, .int v2), (3, .int v3), (7, .int v7)]) d_X10_pairUp_126 rfl rfl (Nat.le_of_ble_eq_true rfl) rfl ?_
        refine r_goto (pc := 129) 83 d_X10_pairUp_129 (by decide) ?_
        refine r_pick [2, 3, 4, 5, 1, 6, 0] (ls' := [(0, .ref a0), (1, .int v1), (2, .int v2), (3, .int v3), (6, .int x13), (7, .int v7), (8, .int (v8 + (1 : Int32)))]) rfl ?_
        exact hk83 x13 v7 (v8 + (1 : Int32)) 
theorem b_X10_pairUp {X : zX} {Sh : zSh} {d : Nat} (hst : (zl X).stackTraces = false) (h0 : zSh0 Sh) (hd : 1 ≤ d) {a0 : Nat} {v1 : Int32} {v2 : Int32} {v3 : Int32} {v4 : Int32} (f_X10_pairUp : Nat → Int32 → Int32 → Int32 → Int32 → zD → Option Int32) (hf_X10_pairUp : ∀ (a0 : Nat) (v1 : Int32) (v2 : Int32) (v3 : Int32) (v4 : Int32) (D : zD) (h_a0 : a0 ∈ zI_10), Sd X m_X10_pairUp d [.ref a0, .int v1, .int v2, .int v3, .int v4] (Sh, D) ((oP Sh D) (f_X10_pairUp a0 v1 v2 v3 v4 D))) (h_a0 : a0 ∈ zI_10) {D : zD} : Sd X m_X10_pairUp (d + 1) [.ref a0, .int v1, .int v2, .int v3, .int v4] (Sh, D) ((oP Sh D) (fn_X10_pairUp f_X10_pairUp a0 v1 v2 v3 v4 D)) := by
  refine z_body ck_X10_pairUp rfl (Nat.le_of_ble_eq_true rfl) rfl hst ?_
  rw [fn_X10_pairUp]
  show Rn X m_X10_pairUp (d + 1) 0 [(0, .ref a0), (1, .int v1), (2, .int v2), (3, .int v3), (4, .int v4)] [] (Sh, D) _
  refine r_aload_n (pc := 0) 0 d_X10_pairUp_0 rfl rfl ?_
  refine r_iload_n (pc := 1) 1 d_X10_pairUp_1 rfl rfl ?_
  refine q_cP (f := (oP Sh D)) (av := [.ref a0, .int v1]) (st := []) (z_runV ck_X10_isSign rfl ml_X10_64 ci_X10_isSign cv_X10_isSign (LK_10 h0 h_a0) (ci := 10) rfl rfl (Nat.le_of_ble_eq_true rfl) d_X10_pairUp_2) (s_X10_isSign hst h0 (by omega) h_a0) kp_P (fun x1 _ => ?_)
  refine r_if_ne (f := (oP Sh D)) (pc := 5) 15 d_X10_pairUp_5 (by decide) (fun c2 => ?_) (fun c2 => ?_)
  · refine r_iconst (pc := 15) (1 : Int32) d_X10_pairUp_15 rfl ?_
    refine r_aload_n (pc := 16) 0 d_X10_pairUp_16 rfl rfl ?_
    refine q_gI (pc := 17) g_X10_37 (LK_10 h0 h_a0) rfl d_X10_pairUp_17 ?_
    refine r_ishl (pc := 20) d_X10_pairUp_20 ?_
    refine r_iconst (pc := 21) (1 : Int32) d_X10_pairUp_21 rfl ?_
    refine r_isub (pc := 22) d_X10_pairUp_22 ?_
    refine r_iload_n (pc := 23) 2 d_X10_pairUp_23 rfl rfl ?_
    refine r_iconst (pc := 24) (-1 : Int32) d_X10_pairUp_24 rfl ?_
    refine r_ixor (pc := 25) d_X10_pairUp_25 ?_
    refine r_iand (pc := 26) d_X10_pairUp_26 ?_
    refine r_iconst (pc := 27) (1 : Int32) d_X10_pairUp_27 rfl ?_
    refine r_iload_n (pc := 28) 1 d_X10_pairUp_28 rfl rfl ?_
    refine r_ishl (pc := 29) d_X10_pairUp_29 ?_
    refine r_ineg (pc := 30) d_X10_pairUp_30 ?_
    refine r_iand (pc := 31) d_X10_pairUp_31 ?_
    refine r_leti (f := (oP Sh D)) (fun x3 => ?_)
    refine r_istore (pc := 32) (ls' := [(5, .int x3), (0, .ref a0), (1, .int v1), (2, .int v2), (3, .int v3), (4, .int v4)]) d_X10_pairUp_32 (Nat.le_of_ble_eq_true rfl) rfl ?_
    refine r_iload_n (pc := 34) 4 d_X10_pairUp_34 rfl rfl ?_
    refine r_iload (pc := 35) 0 d_X10_pairUp_35 rfl ?_
    refine q_cP (f := (oP Sh D)) (av := [.int x3]) (st := [.int v3]) (z_runS ck_JI_bitCount rfl ml_X10_80 cs_JI_bitCount rfl (Nat.le_of_ble_eq_true rfl) d_X10_pairUp_37) (s_JI_bitCount hst h0 (by omega)) kp_P (fun x4 _ => ?_)
    refine r_iconst (pc := 40) (2 : Int32) d_X10_pairUp_40 rfl ?_
    refine r_idiv (f := (oP Sh D)) (pc := 41) d_X10_pairUp_41 rfl ?_
    refine r_iadd (pc := 42) d_X10_pairUp_42 ?_
    refine r_iload (pc := 43) 5 d_X10_pairUp_43 rfl ?_
    refine r_icmp_gt (f := (oP Sh D)) (pc := 45) 51 d_X10_pairUp_45 (by decide) (fun c5 => ?_) (fun c5 => ?_)
    · refine r_iload (pc := 51) 5 d_X10_pairUp_51 rfl ?_
      refine r_istore (pc := 53) (ls' := [(6, .int v4), (5, .int x3), (0, .ref a0), (1, .int v1), (2, .int v2), (3, .int v3), (4, .int v4)]) d_X10_pairUp_53 (Nat.le_of_ble_eq_true rfl) rfl ?_
      refine r_iload_n (pc := 55) 4 d_X10_pairUp_55 rfl rfl ?_
      refine r_iload_n (pc := 56) 3 d_X10_pairUp_56 rfl rfl ?_
      refine r_ishr (pc := 57) d_X10_pairUp_57 ?_
      refine r_iconst (pc := 58) (1 : Int32) d_X10_pairUp_58 rfl ?_
      refine r_iand (pc := 59) d_X10_pairUp_59 ?_
      refine r_if_eq (f := (oP Sh D)) (pc := 60) 67 d_X10_pairUp_60 (by decide) (fun c6 => ?_) (fun c6 => ?_)
      · refine r_aload_n (pc := 67) 2 d_X10_pairUp_67 rfl rfl ?_
        refine r_getR (pc := 68) g_X10_15 (LK_10 h0 h_a0) rfl (LR_10_2 h0 h_a0) d_X10_pairUp_68 ?_
        refine r_iload_n (pc := 71) 3 d_X10_pairUp_71 rfl rfl ?_
        refine r_ck (f := (oP Sh D)) rfl (fun hc7 => ?_)
        refine q_iald (pc := 72) (j := v1.toNatClampNeg) (LA_10_2 h0 h_a0) hc7 rfl d_X10_pairUp_72 ?_
        refine r_iload (pc := 73) 1 d_X10_pairUp_73 rfl ?_
        refine r_iand (pc := 75) d_X10_pairUp_75 ?_
        refine r_leti (f := (oP Sh D)) (fun x8 => ?_)
        refine r_istore (pc := 76) (ls' := [(7, .int x8), (6, .int v4), (5, .int x3), (0, .ref a0), (1, .int v1), (2, .int v2), (3, .int v3), (4, .int v4)]) d_X10_pairUp_76 (Nat.le_of_ble_eq_true rfl) rfl ?_
        refine r_iload_n (pc := 78) 4 d_X10_pairUp_78 rfl rfl ?_
        refine r_iconst (pc := 79) (1 : Int32) d_X10_pairUp_79 rfl ?_
        refine r_iadd (pc := 80) d_X10_pairUp_80 ?_
        refine r_leti (f := (oP Sh D)) (fun x9 => ?_)
        refine r_istore (pc := 81) (ls' := [(8, .int x9), (7, .int x8), (6, .int v4), (5, .int x3), (0, .ref a0), (1, .int v1), (2, .int v2), (3, .int v3), (4, .int v4)]) d_X10_pairUp_81 (Nat.le_of_ble_eq_true rfl) rfl ?_
        refine r_pick [4, 5, 6, 7, 2, 1, 0] (ls' := [(0, .ref a0), (1, .int v1), (2, .int v2), (3, .int v3), (6, .int v4), (7, .int x8), (8, .int x9)]) rfl ?_
        exact s_X10_pairUp_83 hst h0 hd f_X10_pairUp hf_X10_pairUp h_a0 D zFU  v4 x8 x9
      · refine r_iconst (pc := 63) (0 : Int32) d_X10_pairUp_63 rfl ?_
        refine r_goto (pc := 64) 76 d_X10_pairUp_64 (by decide) ?_
        refine r_istore (pc := 76) (ls' := [(7, .int (0 : Int32)), (6, .int v4), (5, .int x3), (0, .ref a0), (1, .int v1), (2, .int v2), (3, .int v3), (4, .int v4)]) d_X10_pairUp_76 (Nat.le_of_ble_eq_true rfl) rfl ?_
        refine r_iload_n (pc := 78) 4 d_X10_pairUp_78 rfl rfl ?_
        refine r_iconst (pc := 79) (1 : Int32) d_X10_pairUp_79 rfl ?_
        refine r_iadd (pc := 80) d_X10_pairUp_80 ?_
        refine r_leti (f := (oP Sh D)) (fun x14 => ?_)
        refine r_istore (pc := 81) (ls' := [(8, .int x14), (7, .int (0 : Int32)), (6, .int v4), (5, .int x3), (0, .ref a0), (1, .int v1), (2, .int v2), (3, .int v3), (4, .int v4)]) d_X10_pairUp_81 (Nat.le_of_ble_eq_true rfl) rfl ?_
        refine r_pick [4, 5, 6, 7, 2, 1, 0] (ls' := [(0, .ref a0), (1, .int v1), (2, .int v2), (3, .int v3), (6, .int v4), (7, .int (0 : Int32)), (8, .int x14)]) rfl ?_
        exact s_X10_pairUp_83 hst h0 hd f_X10_pairUp hf_X10_pairUp h_a0 D zFU  v4 (0 : Int32) x14
    · refine r_iload (pc := 48) 5 d_X10_pairUp_48 rfl ?_
      exact r_iret (pc := 50) rfl d_X10_pairUp_50
  · refine r_iload_n (pc := 8) 3 d_X10_pairUp_8 rfl rfl ?_
    refine r_iload (pc := 9) 4 d_X10_pairUp_9 rfl ?_
    refine r_mmax (pc := 11) ml_X10_92 (by omega) (Nat.le_of_ble_eq_true rfl) d_X10_pairUp_11 ?_
    exact r_iret (pc := 14) rfl d_X10_pairUp_14
def fn_X10_pairUpR : Nat → Nat → Int32 → Int32 → Int32 → Int32 → zD → Option Int32
  | 0, _, _, _, _, _, _ => none
  | n + 1, a0, v1, v2, v3, v4, D => fn_X10_pairUp (fn_X10_pairUpR n) a0 v1 v2 v3 v4 D
theorem s_X10_pairUpR {X : zX} {Sh : zSh} (hst : (zl X).stackTraces = false) (h0 : zSh0 Sh) : ∀ (n d : Nat) (hd : n * 1 + 1 ≤ d) (a0 : Nat) (v1 : Int32) (v2 : Int32) (v3 : Int32) (v4 : Int32) (D : zD) (h_a0 : a0 ∈ zI_10), Sd X m_X10_pairUp d [.ref a0, .int v1, .int v2, .int v3, .int v4] (Sh, D) ((oP Sh D) (fn_X10_pairUpR n a0 v1 v2 v3 v4 D))
  | 0, d, _, _, _, _, _, _, _, _ => fun o M' h => by cases h
  | n + 1, d, hd, a0, v1, v2, v3, v4, D, h_a0 => by
    obtain ⟨d, rfl⟩ : ∃ e, d = e + 1 := ⟨d - 1, by omega⟩
    exact b_X10_pairUp hst h0 (by omega) (fn_X10_pairUpR n) (fun a0 v1 v2 v3 v4 D h_a0 => s_X10_pairUpR hst h0 n d (by omega) a0 v1 v2 v3 v4 D h_a0) h_a0
def fn_X10_pairUpT (a0 : Nat) (v1 : Int32) (v2 : Int32) (v3 : Int32) (v4 : Int32) (D : zD) : Option Int32 := fn_X10_pairUpR 100 a0 v1 v2 v3 v4 D
theorem s_X10_pairUpT {X : zX} {Sh : zSh} {d : Nat} (hst : (zl X).stackTraces = false) (h0 : zSh0 Sh) (hd : 101 ≤ d) {a0 : Nat} {v1 : Int32} {v2 : Int32} {v3 : Int32} {v4 : Int32} (h_a0 : a0 ∈ zI_10) {D : zD} : Sd X m_X10_pairUp d [.ref a0, .int v1, .int v2, .int v3, .int v4] (Sh, D) ((oP Sh D) (fn_X10_pairUpT a0 v1 v2 v3 v4 D)) := s_X10_pairUpR hst h0 100 d (by omega) a0 v1 v2 v3 v4 D h_a0
/-! CoveredSigns$Tangle.mostApartPairs -/
theorem d_X10_mostApartPairs_0 : decode (yB m_X10_mostApartPairs) 0 = .ok (.iconst 0, 1) := by decide +kernel
theorem d_X10_mostApartPairs_1 : decode (yB m_X10_mostApartPairs) 1 = .ok (.istore_n 1, 1) := by decide +kernel
theorem d_X10_mostApartPairs_2 : decode (yB m_X10_mostApartPairs) 2 = .ok (.iconst 0, 1) := by decide +kernel
theorem d_X10_mostApartPairs_3 : decode (yB m_X10_mostApartPairs) 3 = .ok (.istore_n 2, 1) := by decide +kernel
theorem d_X10_mostApartPairs_4 : decode (yB m_X10_mostApartPairs) 4 = .ok (.iload_n 2, 1) := by decide +kernel
theorem d_X10_mostApartPairs_5 : decode (yB m_X10_mostApartPairs) 5 = .ok (.aload_n 0, 1) := by decide +kernel
theorem d_X10_mostApartPairs_6 : decode (yB m_X10_mostApartPairs) 6 = .ok (.getfield 37, 3) := by decide +kernel
theorem d_X10_mostApartPairs_9 : decode (yB m_X10_mostApartPairs) 9 = .ok (.if_icmp .ge 23, 3) := by decide +kernel
theorem d_X10_mostApartPairs_12 : decode (yB m_X10_mostApartPairs) 12 = .ok (.aload_n 0, 1) := by decide +kernel
theorem d_X10_mostApartPairs_13 : decode (yB m_X10_mostApartPairs) 13 = .ok (.iload_n 2, 1) := by decide +kernel
theorem d_X10_mostApartPairs_14 : decode (yB m_X10_mostApartPairs) 14 = .ok (.invokevirtual 85, 3) := by decide +kernel
theorem d_X10_mostApartPairs_17 : decode (yB m_X10_mostApartPairs) 17 = .ok (.ifCond .ne 9, 3) := by decide +kernel
theorem d_X10_mostApartPairs_20 : decode (yB m_X10_mostApartPairs) 20 = .ok (.iload_n 1, 1) := by decide +kernel
theorem d_X10_mostApartPairs_21 : decode (yB m_X10_mostApartPairs) 21 = .ok (.iconst 1, 1) := by decide +kernel
theorem d_X10_mostApartPairs_22 : decode (yB m_X10_mostApartPairs) 22 = .ok (.iload_n 2, 1) := by decide +kernel
theorem d_X10_mostApartPairs_23 : decode (yB m_X10_mostApartPairs) 23 = .ok (.ishl, 1) := by decide +kernel
theorem d_X10_mostApartPairs_24 : decode (yB m_X10_mostApartPairs) 24 = .ok (.ior, 1) := by decide +kernel
theorem d_X10_mostApartPairs_25 : decode (yB m_X10_mostApartPairs) 25 = .ok (.istore_n 1, 1) := by decide +kernel
theorem d_X10_mostApartPairs_26 : decode (yB m_X10_mostApartPairs) 26 = .ok (.iinc 2 1, 3) := by decide +kernel
theorem d_X10_mostApartPairs_29 : decode (yB m_X10_mostApartPairs) 29 = .ok (.goto (-25), 3) := by decide +kernel
theorem d_X10_mostApartPairs_32 : decode (yB m_X10_mostApartPairs) 32 = .ok (.aload_n 0, 1) := by decide +kernel
theorem d_X10_mostApartPairs_33 : decode (yB m_X10_mostApartPairs) 33 = .ok (.iconst 0, 1) := by decide +kernel
theorem d_X10_mostApartPairs_34 : decode (yB m_X10_mostApartPairs) 34 = .ok (.iload_n 1, 1) := by decide +kernel
theorem d_X10_mostApartPairs_35 : decode (yB m_X10_mostApartPairs) 35 = .ok (.iconst 0, 1) := by decide +kernel
theorem d_X10_mostApartPairs_36 : decode (yB m_X10_mostApartPairs) 36 = .ok (.iconst 0, 1) := by decide +kernel
theorem d_X10_mostApartPairs_37 : decode (yB m_X10_mostApartPairs) 37 = .ok (.invokevirtual 88, 3) := by decide +kernel
theorem d_X10_mostApartPairs_40 : decode (yB m_X10_mostApartPairs) 40 = .ok (.ireturn, 1) := by decide +kernel
def fn_X10_mostApartPairs_4 (a0 : Nat) (D : zD) : Nat → Int32 → Int32 → Option Int32
  | 0, _, _ => none
  | n + 1, v1, v2 => (if (gI D a0 4) ≤ v2 then ((fn_X10_pairUpT a0 (0 : Int32) v1 (0 : Int32) (0 : Int32) D).bind fun x2 => (some x2)) else ((fn_X10_degree a0 v2 D).bind fun x3 => (if x3 = 0 then (zlet (v1 ||| ((1 : Int32) <<< (v2 &&& 31))) fun x5 => ((fn_X10_mostApartPairs_4 a0 D n) x5 (v2 + (1 : Int32)))) else (((fn_X10_mostApartPairs_4 a0 D n) v1 (v2 + (1 : Int32)))))))
def fn_X10_mostApartPairs (a0 : Nat) (D : zD) : Option Int32 := (fn_X10_mostApartPairs_4 a0 D zFU (0 : Int32) (0 : Int32))
theorem s_X10_mostApartPairs_4 {X : zX} {Sh : zSh} {d : Nat} (hst : (zl X).stackTraces = false) (h0 : zSh0 Sh) (hd : 101 ≤ d) {a0 : Nat} (h_a0 : a0 ∈ zI_10) (D : zD) : ∀ (n : Nat) (v1 : Int32) (v2 : Int32) , Rn X m_X10_mostApartPairs (d + 1) 4 [(0, .ref a0), (1, .int v1), (2, .int v2)] [] (Sh, D) ((oP Sh D) (fn_X10_mostApartPairs_4 a0 D n v1 v2)) := by
  intro n
  induction n with
  | zero => intro v1 v2; exact Rn_none rfl
  | succ n hk4 =>
    intro v1 v2
    rw [fn_X10_mostApartPairs_4]
    refine r_iload_n (pc := 4) 2 d_X10_mostApartPairs_4 rfl rfl ?_
    refine r_aload_n (pc := 5) 0 d_X10_mostApartPairs_5 rfl rfl ?_
    refine q_gI (pc := 6) g_X10_37 (LK_10 h0 h_a0) rfl d_X10_mostApartPairs_6 ?_
    refine r_icmp_ge (f := (oP Sh D)) (pc := 9) 32 d_X10_mostApartPairs_9 (by decide) (fun c1 => ?_) (fun c1 => ?_)
    · refine r_aload_n (pc := 32) 0 d_X10_mostApartPairs_32 rfl rfl ?_
      refine r_iconst (pc := 33) (0 : Int32) d_X10_mostApartPairs_33 rfl ?_
      refine r_iload_n (pc := 34) 1 d_X10_mostApartPairs_34 rfl rfl ?_
      refine r_iconst (pc := 35) (0 : Int32) d_X10_mostApartPairs_35 rfl ?_
      refine r_iconst (pc := 36) (0 : Int32) d_X10_mostApartPairs_36 rfl ?_
      refine q_cP (f := (oP Sh D)) (av := [.ref a0, .int (0 : Int32), .int v1, .int (0 : Int32), .int (0 : Int32)]) (st := []) (z_runV ck_X10_pairUp rfl ml_X10_88 ci_X10_pairUp cv_X10_pairUp (LK_10 h0 h_a0) (ci := 10) rfl rfl (Nat.le_of_ble_eq_true rfl) d_X10_mostApartPairs_37) (s_X10_pairUpT hst h0 (by omega) h_a0) kp_P (fun x2 _ => ?_)
      exact r_iret (pc := 40) rfl d_X10_mostApartPairs_40
    · refine r_aload_n (pc := 12) 0 d_X10_mostApartPairs_12 rfl rfl ?_
      refine r_iload_n (pc := 13) 2 d_X10_mostApartPairs_13 rfl rfl ?_
      refine q_cP (f := (oP Sh D)) (av := [.ref a0, .int v2]) (st := []) (z_runV ck_X10_degree rfl ml_X10_85 ci_X10_degree cv_X10_degree (LK_10 h0 h_a0) (ci := 10) rfl rfl (Nat.le_of_ble_eq_true rfl) d_X10_mostApartPairs_14) (s_X10_degree hst h0 (by omega) h_a0) kp_P (fun x3 _ => ?_)
      refine r_if_ne (f := (oP Sh D)) (pc := 17) 26 d_X10_mostApartPairs_17 (by decide) (fun c4 => ?_) (fun c4 => ?_)
      · refine r_iinc (pc := 26) ((v2 + (1 : Int32))) 2 (ls' := [(2, .int (v2 + (1 : Int32))), (0, .ref a0), (1, .int v1)]) d_X10_mostApartPairs_26 rfl rfl (Nat.le_of_ble_eq_true rfl) rfl ?_
        refine r_goto (pc := 29) 4 d_X10_mostApartPairs_29 (by decide) ?_
        refine r_pick [1, 2, 0] (ls' := [(0, .ref a0), (1, .int v1), (2, .int (v2 + (1 : Int32)))]) rfl ?_
        exact hk4 v1 (v2 + (1 : Int32)) 
      · refine r_iload_n (pc := 20) 1 d_X10_mostApartPairs_20 rfl rfl ?_
        refine r_iconst (pc := 21) (1 : Int32) d_X10_mostApartPairs_21 rfl ?_
        refine r_iload_n (pc := 22) 2 d_X10_mostApartPairs_22 rfl rfl ?_
        refine r_ishl (pc := 23) d_X10_mostApartPairs_23 ?_
        refine r_ior (pc := 24) d_X10_mostApartPairs_24 ?_
        refine r_leti (f := (oP Sh D)) (fun x5 => ?_)
        refine r_istore_n (pc := 25) (ls' := [(1, .int x5), (0, .ref a0), (2, .int v2)]) d_X10_mostApartPairs_25 rfl (Nat.le_of_ble_eq_true rfl) rfl ?_
        refine r_iinc (pc := 26) ((v2 + (1 : Int32))) 2 (ls' := [(2, .int (v2 + (1 : Int32))), (1, .int x5), (0, .ref a0)]) d_X10_mostApartPairs_26 rfl rfl (Nat.le_of_ble_eq_true rfl) rfl ?_
        refine r_goto (pc := 29) 4 d_X10_mostApartPairs_29 (by decide) ?_
        refine r_pick [2, 1, 0] (ls' := [(0, .ref a0), (1, .int x5), (2, .int (v2 + (1 : Int32)))]) rfl ?_
        exact hk4 x5 (v2 + (1 : Int32)) 
theorem s_X10_mostApartPairs {X : zX} {Sh : zSh} {d : Nat} (hst : (zl X).stackTraces = false) (h0 : zSh0 Sh) (hd : 102 ≤ d) {a0 : Nat} (h_a0 : a0 ∈ zI_10) {D : zD} : Sd X m_X10_mostApartPairs d [.ref a0] (Sh, D) ((oP Sh D) (fn_X10_mostApartPairs a0 D)) := by
  obtain ⟨d, rfl⟩ : ∃ e, d = e + 1 := ⟨d - 1, by omega⟩
  replace hd : 101 ≤ d := by omega
  refine z_body ck_X10_mostApartPairs rfl (Nat.le_of_ble_eq_true rfl) rfl hst ?_
  rw [fn_X10_mostApartPairs]
  show Rn X m_X10_mostApartPairs (d + 1) 0 [(0, .ref a0)] [] (Sh, D) _
  refine r_iconst (pc := 0) (0 : Int32) d_X10_mostApartPairs_0 rfl ?_
  refine r_istore_n (pc := 1) (ls' := [(1, .int (0 : Int32)), (0, .ref a0)]) d_X10_mostApartPairs_1 rfl (Nat.le_of_ble_eq_true rfl) rfl ?_
  refine r_iconst (pc := 2) (0 : Int32) d_X10_mostApartPairs_2 rfl ?_
  refine r_istore_n (pc := 3) (ls' := [(2, .int (0 : Int32)), (1, .int (0 : Int32)), (0, .ref a0)]) d_X10_mostApartPairs_3 rfl (Nat.le_of_ble_eq_true rfl) rfl ?_
  refine r_pick [2, 1, 0] (ls' := [(0, .ref a0), (1, .int (0 : Int32)), (2, .int (0 : Int32))]) rfl ?_
  exact s_X10_mostApartPairs_4 hst h0 hd h_a0 D zFU  (0 : Int32) (0 : Int32)

