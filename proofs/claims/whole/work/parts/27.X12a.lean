/-! CoveredSignsModel.thrown -/
theorem d_X12_thrown_0 : decode (yB m_X12_thrown) 0 = .ok (.aload_n 0, 1) := by decide +kernel
theorem d_X12_thrown_1 : decode (yB m_X12_thrown) 1 = .ok (.getfield 113, 3) := by decide +kernel
theorem d_X12_thrown_4 : decode (yB m_X12_thrown) 4 = .ok (.ireturn, 1) := by decide +kernel
def fn_X12_thrown (D : zD) : Option Int32 := (some (gI D 102 0))
theorem s_X12_thrown {X : zX} {Sh : zSh} {d : Nat} (hst : (zl X).stackTraces = false) (h0 : zSh0 Sh) (hd : 1 ≤ d)  {D : zD} : Sd X m_X12_thrown d [.ref 102] (Sh, D) ((oP Sh D) (fn_X12_thrown D)) := by
  obtain ⟨d, rfl⟩ : ∃ e, d = e + 1 := ⟨d - 1, by omega⟩
  replace hd : 0 ≤ d := by omega
  refine z_body ck_X12_thrown rfl (Nat.le_of_ble_eq_true rfl) rfl hst ?_
  rw [fn_X12_thrown]
  show Rn X m_X12_thrown (d + 1) 0 [(0, .ref 102)] [] (Sh, D) _
  refine r_aload_n (pc := 0) 0 d_X12_thrown_0 rfl rfl ?_
  refine q_gI (pc := 1) g_X12_113 (K_102 h0) rfl d_X12_thrown_1 ?_
  exact r_iret (pc := 4) rfl d_X12_thrown_4
/-! CoveredSignsModel.bad -/
theorem d_X12_bad_0 : decode (yB m_X12_bad) 0 = .ok (.iload_n 1, 1) := by decide +kernel
theorem d_X12_bad_1 : decode (yB m_X12_bad) 1 = .ok (.ifCond .eq 15, 3) := by decide +kernel
theorem d_X12_bad_4 : decode (yB m_X12_bad) 4 = .ok (.aload_n 0, 1) := by decide +kernel
theorem d_X12_bad_5 : decode (yB m_X12_bad) 5 = .ok (.getfield 113, 3) := by decide +kernel
theorem d_X12_bad_8 : decode (yB m_X12_bad) 8 = .ok (.ifCond .ne 8, 3) := by decide +kernel
theorem d_X12_bad_11 : decode (yB m_X12_bad) 11 = .ok (.aload_n 0, 1) := by decide +kernel
theorem d_X12_bad_12 : decode (yB m_X12_bad) 12 = .ok (.iload_n 2, 1) := by decide +kernel
theorem d_X12_bad_13 : decode (yB m_X12_bad) 13 = .ok (.putfield 113, 3) := by decide +kernel
theorem d_X12_bad_16 : decode (yB m_X12_bad) 16 = .ok (.aload_n 0, 1) := by decide +kernel
theorem d_X12_bad_17 : decode (yB m_X12_bad) 17 = .ok (.getfield 113, 3) := by decide +kernel
theorem d_X12_bad_20 : decode (yB m_X12_bad) 20 = .ok (.ifCond .eq 7, 3) := by decide +kernel
theorem d_X12_bad_23 : decode (yB m_X12_bad) 23 = .ok (.iconst 1, 1) := by decide +kernel
theorem d_X12_bad_24 : decode (yB m_X12_bad) 24 = .ok (.goto 4, 3) := by decide +kernel
theorem d_X12_bad_27 : decode (yB m_X12_bad) 27 = .ok (.iconst 0, 1) := by decide +kernel
theorem d_X12_bad_28 : decode (yB m_X12_bad) 28 = .ok (.ireturn, 1) := by decide +kernel
def fn_X12_bad_16 (v1 : Int32) (v2 : Int32) (D : zD) : Option (Int32 × zD) := (if (gI D 102 0) = 0 then ((some ((0 : Int32), D))) else ((some ((1 : Int32), D))))
def fn_X12_bad (v1 : Int32) (v2 : Int32) (D : zD) : Option (Int32 × zD) := (if v1 = 0 then ((fn_X12_bad_16 v1 v2 D)) else ((if (gI D 102 0) = 0 then (zlet (sI D 102 0 v2) fun D4 => (fn_X12_bad_16 v1 v2 D4)) else ((fn_X12_bad_16 v1 v2 D)))))
theorem s_X12_bad_16 {X : zX} {Sh : zSh} {d : Nat} (hst : (zl X).stackTraces = false) (h0 : zSh0 Sh) (hd : 0 ≤ d) {v1 : Int32} {v2 : Int32}  (D : zD)  : Rn X m_X12_bad (d + 1) 16 [(0, .ref 102)] [] (Sh, D) ((oI Sh) (fn_X12_bad_16 v1 v2 D)) := by
  rw [fn_X12_bad_16]
  refine r_aload_n (pc := 16) 0 d_X12_bad_16 rfl rfl ?_
  refine q_gI (pc := 17) g_X12_113 (K_102 h0) rfl d_X12_bad_17 ?_
  refine r_if_eq (f := (oI Sh)) (pc := 20) 27 d_X12_bad_20 (by decide) (fun c2 => ?_) (fun c2 => ?_)
  · refine r_iconst (pc := 27) (0 : Int32) d_X12_bad_27 rfl ?_
    exact r_zret (pc := 28) rfl (by decide) d_X12_bad_28
  · refine r_iconst (pc := 23) (1 : Int32) d_X12_bad_23 rfl ?_
    refine r_goto (pc := 24) 28 d_X12_bad_24 (by decide) ?_
    exact r_zret (pc := 28) rfl (by decide) d_X12_bad_28
theorem s_X12_bad {X : zX} {Sh : zSh} {d : Nat} (hst : (zl X).stackTraces = false) (h0 : zSh0 Sh) (hd : 1 ≤ d) {v1 : Int32} {v2 : Int32} {D : zD} : Sd X m_X12_bad d [.ref 102, .int v1, .int v2] (Sh, D) ((oI Sh) (fn_X12_bad v1 v2 D)) := by
  obtain ⟨d, rfl⟩ : ∃ e, d = e + 1 := ⟨d - 1, by omega⟩
  replace hd : 0 ≤ d := by omega
  refine z_body ck_X12_bad rfl (Nat.le_of_ble_eq_true rfl) rfl hst ?_
  rw [fn_X12_bad]
  show Rn X m_X12_bad (d + 1) 0 [(0, .ref 102), (1, .int v1), (2, .int v2)] [] (Sh, D) _
  refine r_iload_n (pc := 0) 1 d_X12_bad_0 rfl rfl ?_
  refine r_if_eq (f := (oI Sh)) (pc := 1) 16 d_X12_bad_1 (by decide) (fun c1 => ?_) (fun c1 => ?_)
  · refine r_pick [0] (ls' := [(0, .ref 102)]) rfl ?_
    exact s_X12_bad_16 hst h0 hd D
  · refine r_aload_n (pc := 4) 0 d_X12_bad_4 rfl rfl ?_
    refine q_gI (pc := 5) g_X12_113 (K_102 h0) rfl d_X12_bad_5 ?_
    refine r_if_ne (f := (oI Sh)) (pc := 8) 16 d_X12_bad_8 (by decide) (fun c3 => ?_) (fun c3 => ?_)
    · refine r_pick [0] (ls' := [(0, .ref 102)]) rfl ?_
      exact s_X12_bad_16 hst h0 hd D
    · refine r_aload_n (pc := 11) 0 d_X12_bad_11 rfl rfl ?_
      refine r_iload_n (pc := 12) 2 d_X12_bad_12 rfl rfl ?_
      refine r_putI (pc := 13) p_X12_113 (K_102 h0) rfl (Or.inl rfl) d_X12_bad_13 ?_
      refine r_letD (f := (oI Sh)) (fun D4 => ?_)
      refine r_pick [0] (ls' := [(0, .ref 102)]) rfl ?_
      exact s_X12_bad_16 hst h0 hd D4
/-! CoveredSignsModel.in -/
theorem d_X12_in_0 : decode (yB m_X12_in) 0 = .ok (.iload_n 0, 1) := by decide +kernel
theorem d_X12_in_1 : decode (yB m_X12_in) 1 = .ok (.iload_n 1, 1) := by decide +kernel
theorem d_X12_in_2 : decode (yB m_X12_in) 2 = .ok (.if_icmp .lt 12, 3) := by decide +kernel
theorem d_X12_in_5 : decode (yB m_X12_in) 5 = .ok (.iload_n 0, 1) := by decide +kernel
theorem d_X12_in_6 : decode (yB m_X12_in) 6 = .ok (.iload_n 2, 1) := by decide +kernel
theorem d_X12_in_7 : decode (yB m_X12_in) 7 = .ok (.if_icmp .gt 7, 3) := by decide +kernel
theorem d_X12_in_10 : decode (yB m_X12_in) 10 = .ok (.iconst 1, 1) := by decide +kernel
theorem d_X12_in_11 : decode (yB m_X12_in) 11 = .ok (.goto 4, 3) := by decide +kernel
theorem d_X12_in_14 : decode (yB m_X12_in) 14 = .ok (.iconst 0, 1) := by decide +kernel
theorem d_X12_in_15 : decode (yB m_X12_in) 15 = .ok (.ireturn, 1) := by decide +kernel
def fn_X12_in (v0 : Int32) (v1 : Int32) (v2 : Int32) : Option Int32 := (if v0 < v1 then ((some (0 : Int32))) else ((if v2 < v0 then ((some (0 : Int32))) else ((some (1 : Int32))))))
theorem s_X12_in {X : zX} {Sh : zSh} {d : Nat} (hst : (zl X).stackTraces = false) (h0 : zSh0 Sh) (hd : 1 ≤ d) {v0 : Int32} {v1 : Int32} {v2 : Int32} {D : zD} : Sd X m_X12_in d [.int v0, .int v1, .int v2] (Sh, D) ((oP Sh D) (fn_X12_in v0 v1 v2)) := by
  obtain ⟨d, rfl⟩ : ∃ e, d = e + 1 := ⟨d - 1, by omega⟩
  replace hd : 0 ≤ d := by omega
  refine z_body ck_X12_in rfl (Nat.le_of_ble_eq_true rfl) rfl hst ?_
  rw [fn_X12_in]
  show Rn X m_X12_in (d + 1) 0 [(0, .int v0), (1, .int v1), (2, .int v2)] [] (Sh, D) _
  refine r_iload_n (pc := 0) 0 d_X12_in_0 rfl rfl ?_
  refine r_iload_n (pc := 1) 1 d_X12_in_1 rfl rfl ?_
  refine r_icmp_lt (f := (oP Sh D)) (pc := 2) 14 d_X12_in_2 (by decide) (fun c1 => ?_) (fun c1 => ?_)
  · refine r_iconst (pc := 14) (0 : Int32) d_X12_in_14 rfl ?_
    exact r_zret (pc := 15) rfl (by decide) d_X12_in_15
  · refine r_iload_n (pc := 5) 0 d_X12_in_5 rfl rfl ?_
    refine r_iload_n (pc := 6) 2 d_X12_in_6 rfl rfl ?_
    refine r_icmp_gt (f := (oP Sh D)) (pc := 7) 14 d_X12_in_7 (by decide) (fun c2 => ?_) (fun c2 => ?_)
    · refine r_iconst (pc := 14) (0 : Int32) d_X12_in_14 rfl ?_
      exact r_zret (pc := 15) rfl (by decide) d_X12_in_15
    · refine r_iconst (pc := 10) (1 : Int32) d_X12_in_10 rfl ?_
      refine r_goto (pc := 11) 15 d_X12_in_11 (by decide) ?_
      exact r_zret (pc := 15) rfl (by decide) d_X12_in_15
/-! CoveredSignsModel.feed -/
theorem d_X12_feed_0 : decode (yB m_X12_feed) 0 = .ok (.aload_n 0, 1) := by decide +kernel
theorem d_X12_feed_1 : decode (yB m_X12_feed) 1 = .ok (.iconst 0, 1) := by decide +kernel
theorem d_X12_feed_2 : decode (yB m_X12_feed) 2 = .ok (.putfield 113, 3) := by decide +kernel
theorem d_X12_feed_5 : decode (yB m_X12_feed) 5 = .ok (.aload_n 0, 1) := by decide +kernel
theorem d_X12_feed_6 : decode (yB m_X12_feed) 6 = .ok (.getfield 116, 3) := by decide +kernel
theorem d_X12_feed_9 : decode (yB m_X12_feed) 9 = .ok (.bipush 20, 2) := by decide +kernel
theorem d_X12_feed_11 : decode (yB m_X12_feed) 11 = .ok (.iadd, 1) := by decide +kernel
theorem d_X12_feed_12 : decode (yB m_X12_feed) 12 = .ok (.sipush 500, 3) := by decide +kernel
theorem d_X12_feed_15 : decode (yB m_X12_feed) 15 = .ok (.if_icmp .le 5, 3) := by decide +kernel
theorem d_X12_feed_18 : decode (yB m_X12_feed) 18 = .ok (.iconst (-1), 1) := by decide +kernel
theorem d_X12_feed_19 : decode (yB m_X12_feed) 19 = .ok (.ireturn, 1) := by decide +kernel
theorem d_X12_feed_20 : decode (yB m_X12_feed) 20 = .ok (.iconst 0, 1) := by decide +kernel
theorem d_X12_feed_21 : decode (yB m_X12_feed) 21 = .ok (.istore 6, 2) := by decide +kernel
theorem d_X12_feed_23 : decode (yB m_X12_feed) 23 = .ok (.iload 6, 2) := by decide +kernel
theorem d_X12_feed_25 : decode (yB m_X12_feed) 25 = .ok (.bipush 20, 2) := by decide +kernel
theorem d_X12_feed_27 : decode (yB m_X12_feed) 27 = .ok (.if_icmp .ge 93, 3) := by decide +kernel
theorem d_X12_feed_30 : decode (yB m_X12_feed) 30 = .ok (.iload 6, 2) := by decide +kernel
theorem d_X12_feed_32 : decode (yB m_X12_feed) 32 = .ok (.iconst 4, 1) := by decide +kernel
theorem d_X12_feed_33 : decode (yB m_X12_feed) 33 = .ok (.if_icmp .ge 7, 3) := by decide +kernel
theorem d_X12_feed_36 : decode (yB m_X12_feed) 36 = .ok (.iload_n 1, 1) := by decide +kernel
theorem d_X12_feed_37 : decode (yB m_X12_feed) 37 = .ok (.goto 39, 3) := by decide +kernel
theorem d_X12_feed_40 : decode (yB m_X12_feed) 40 = .ok (.iload 6, 2) := by decide +kernel
theorem d_X12_feed_42 : decode (yB m_X12_feed) 42 = .ok (.bipush 8, 2) := by decide +kernel
theorem d_X12_feed_44 : decode (yB m_X12_feed) 44 = .ok (.if_icmp .ge 7, 3) := by decide +kernel
theorem d_X12_feed_47 : decode (yB m_X12_feed) 47 = .ok (.iload_n 2, 1) := by decide +kernel
theorem d_X12_feed_48 : decode (yB m_X12_feed) 48 = .ok (.goto 28, 3) := by decide +kernel
theorem d_X12_feed_51 : decode (yB m_X12_feed) 51 = .ok (.iload 6, 2) := by decide +kernel
theorem d_X12_feed_53 : decode (yB m_X12_feed) 53 = .ok (.bipush 12, 2) := by decide +kernel
theorem d_X12_feed_55 : decode (yB m_X12_feed) 55 = .ok (.if_icmp .ge 7, 3) := by decide +kernel
theorem d_X12_feed_58 : decode (yB m_X12_feed) 58 = .ok (.iload_n 3, 1) := by decide +kernel
theorem d_X12_feed_59 : decode (yB m_X12_feed) 59 = .ok (.goto 17, 3) := by decide +kernel
theorem d_X12_feed_62 : decode (yB m_X12_feed) 62 = .ok (.iload 6, 2) := by decide +kernel
theorem d_X12_feed_64 : decode (yB m_X12_feed) 64 = .ok (.bipush 16, 2) := by decide +kernel
theorem d_X12_feed_66 : decode (yB m_X12_feed) 66 = .ok (.if_icmp .ge 8, 3) := by decide +kernel
theorem d_X12_feed_69 : decode (yB m_X12_feed) 69 = .ok (.iload 4, 2) := by decide +kernel
theorem d_X12_feed_71 : decode (yB m_X12_feed) 71 = .ok (.goto 5, 3) := by decide +kernel
theorem d_X12_feed_74 : decode (yB m_X12_feed) 74 = .ok (.iload 5, 2) := by decide +kernel
theorem d_X12_feed_76 : decode (yB m_X12_feed) 76 = .ok (.istore 7, 2) := by decide +kernel
theorem d_X12_feed_78 : decode (yB m_X12_feed) 78 = .ok (.aload_n 0, 1) := by decide +kernel
theorem d_X12_feed_79 : decode (yB m_X12_feed) 79 = .ok (.getfield 13, 3) := by decide +kernel
theorem d_X12_feed_82 : decode (yB m_X12_feed) 82 = .ok (.aload_n 0, 1) := by decide +kernel
theorem d_X12_feed_83 : decode (yB m_X12_feed) 83 = .ok (.getfield 116, 3) := by decide +kernel
theorem d_X12_feed_86 : decode (yB m_X12_feed) 86 = .ok (.iload 7, 2) := by decide +kernel
theorem d_X12_feed_88 : decode (yB m_X12_feed) 88 = .ok (.bipush 24, 2) := by decide +kernel
theorem d_X12_feed_90 : decode (yB m_X12_feed) 90 = .ok (.bipush 8, 2) := by decide +kernel
theorem d_X12_feed_92 : decode (yB m_X12_feed) 92 = .ok (.iload 6, 2) := by decide +kernel
theorem d_X12_feed_94 : decode (yB m_X12_feed) 94 = .ok (.iconst 4, 1) := by decide +kernel
theorem d_X12_feed_95 : decode (yB m_X12_feed) 95 = .ok (.irem, 1) := by decide +kernel
theorem d_X12_feed_96 : decode (yB m_X12_feed) 96 = .ok (.imul, 1) := by decide +kernel
theorem d_X12_feed_97 : decode (yB m_X12_feed) 97 = .ok (.isub, 1) := by decide +kernel
theorem d_X12_feed_98 : decode (yB m_X12_feed) 98 = .ok (.ishr, 1) := by decide +kernel
theorem d_X12_feed_99 : decode (yB m_X12_feed) 99 = .ok (.sipush 255, 3) := by decide +kernel
theorem d_X12_feed_102 : decode (yB m_X12_feed) 102 = .ok (.iand, 1) := by decide +kernel
theorem d_X12_feed_103 : decode (yB m_X12_feed) 103 = .ok (.iastore, 1) := by decide +kernel
theorem d_X12_feed_104 : decode (yB m_X12_feed) 104 = .ok (.aload_n 0, 1) := by decide +kernel
theorem d_X12_feed_105 : decode (yB m_X12_feed) 105 = .ok (.dup, 1) := by decide +kernel
theorem d_X12_feed_106 : decode (yB m_X12_feed) 106 = .ok (.getfield 116, 3) := by decide +kernel
theorem d_X12_feed_109 : decode (yB m_X12_feed) 109 = .ok (.iconst 1, 1) := by decide +kernel
theorem d_X12_feed_110 : decode (yB m_X12_feed) 110 = .ok (.iadd, 1) := by decide +kernel
theorem d_X12_feed_111 : decode (yB m_X12_feed) 111 = .ok (.putfield 116, 3) := by decide +kernel
theorem d_X12_feed_114 : decode (yB m_X12_feed) 114 = .ok (.iinc 6 1, 3) := by decide +kernel
theorem d_X12_feed_117 : decode (yB m_X12_feed) 117 = .ok (.goto (-94), 3) := by decide +kernel
theorem d_X12_feed_120 : decode (yB m_X12_feed) 120 = .ok (.aload_n 0, 1) := by decide +kernel
theorem d_X12_feed_121 : decode (yB m_X12_feed) 121 = .ok (.getfield 116, 3) := by decide +kernel
theorem d_X12_feed_124 : decode (yB m_X12_feed) 124 = .ok (.ireturn, 1) := by decide +kernel
def fn_X12_feed_76 (v1 : Int32) (v2 : Int32) (v3 : Int32) (v4 : Int32) (v5 : Int32) (k23 : Int32 → zD → Option (Int32 × zD)) (v6 : Int32) (w0 : Int32) (D : zD) : Option (Int32 × zD) := zdv (4 : Int32) <| zck (gI D 102 1) 500 <| zlet (sI D 103 (gI D 102 1).toNatClampNeg ((w0 >>> (((24 : Int32) - ((8 : Int32) * (v6 - v6 / (4 : Int32) * (4 : Int32)))) &&& 31)) &&& (255 : Int32))) fun D9 => zlet (sI D9 102 1 ((gI D9 102 1) + (1 : Int32))) fun D10 => (k23 (v6 + (1 : Int32)) D10)
def fn_X12_feed_23 (v1 : Int32) (v2 : Int32) (v3 : Int32) (v4 : Int32) (v5 : Int32) : Nat → Int32 → zD → Option (Int32 × zD)
  | 0, _, _ => none
  | n + 1, v6, D => (if (20 : Int32) ≤ v6 then ((some ((gI D 102 1), D))) else ((if (4 : Int32) ≤ v6 then ((if (8 : Int32) ≤ v6 then ((if (12 : Int32) ≤ v6 then ((if (16 : Int32) ≤ v6 then ((fn_X12_feed_76 v1 v2 v3 v4 v5 (fn_X12_feed_23 v1 v2 v3 v4 v5 n) v6 v5 D)) else ((fn_X12_feed_76 v1 v2 v3 v4 v5 (fn_X12_feed_23 v1 v2 v3 v4 v5 n) v6 v4 D)))) else ((fn_X12_feed_76 v1 v2 v3 v4 v5 (fn_X12_feed_23 v1 v2 v3 v4 v5 n) v6 v3 D)))) else ((fn_X12_feed_76 v1 v2 v3 v4 v5 (fn_X12_feed_23 v1 v2 v3 v4 v5 n) v6 v2 D)))) else ((fn_X12_feed_76 v1 v2 v3 v4 v5 (fn_X12_feed_23 v1 v2 v3 v4 v5 n) v6 v1 D)))))
def fn_X12_feed (v1 : Int32) (v2 : Int32) (v3 : Int32) (v4 : Int32) (v5 : Int32) (D : zD) : Option (Int32 × zD) := zlet (sI D 102 0 (0 : Int32)) fun D1 => (if ((gI D1 102 1) + (20 : Int32)) ≤ (500 : Int32) then ((fn_X12_feed_23 v1 v2 v3 v4 v5 zFU (0 : Int32) D1)) else ((some ((-1 : Int32), D1))))
theorem s_X12_feed_76 {X : zX} {Sh : zSh} {d : Nat} (hst : (zl X).stackTraces = false) (h0 : zSh0 Sh) (hd : 0 ≤ d) {v1 : Int32} {v2 : Int32} {v3 : Int32} {v4 : Int32} {v5 : Int32} (k23 : Int32 → zD → Option (Int32 × zD)) (hk23 : ∀ (v6 : Int32) (D : zD) , Rn X m_X12_feed (d + 1) 23 [(0, .ref 102), (1, .int v1), (2, .int v2), (3, .int v3), (4, .int v4), (5, .int v5), (6, .int v6)] [] (Sh, D) ((oI Sh) (k23 v6 D))) (v6 : Int32) (w0 : Int32) (D : zD)  : Rn X m_X12_feed (d + 1) 76 [(0, .ref 102), (1, .int v1), (2, .int v2), (3, .int v3), (4, .int v4), (5, .int v5), (6, .int v6)] [.int w0] (Sh, D) ((oI Sh) (fn_X12_feed_76 v1 v2 v3 v4 v5 k23 v6 w0 D)) := by
  rw [fn_X12_feed_76]
  refine r_istore (pc := 76) (ls' := [(7, .int w0), (0, .ref 102), (1, .int v1), (2, .int v2), (3, .int v3), (4, .int v4), (5, .int v5), (6, .int v6)]) d_X12_feed_76 (Nat.le_of_ble_eq_true rfl) rfl ?_
  refine r_aload_n (pc := 78) 1 d_X12_feed_78 rfl rfl ?_
  refine r_getR (pc := 79) g_X12_13 (K_102 h0) rfl (R_102_9 h0) d_X12_feed_79 ?_
  refine r_aload_n (pc := 82) 1 d_X12_feed_82 rfl rfl ?_
  refine q_gI (pc := 83) g_X12_116 (K_102 h0) rfl d_X12_feed_83 ?_
  refine r_iload (pc := 86) 0 d_X12_feed_86 rfl ?_
  refine r_bipush (pc := 88) (24 : Int32) d_X12_feed_88 rfl ?_
  refine r_bipush (pc := 90) (8 : Int32) d_X12_feed_90 rfl ?_
  refine r_iload (pc := 92) 7 d_X12_feed_92 rfl ?_
  refine r_iconst (pc := 94) (4 : Int32) d_X12_feed_94 rfl ?_
  refine r_irem (f := (oI Sh)) (pc := 95) d_X12_feed_95 rfl ?_
  refine r_imul (pc := 96) d_X12_feed_96 ?_
  refine r_isub (pc := 97) d_X12_feed_97 ?_
  refine r_ishr (pc := 98) d_X12_feed_98 ?_
  refine r_sipush (pc := 99) (255 : Int32) d_X12_feed_99 rfl ?_
  refine r_iand (pc := 102) d_X12_feed_102 ?_
  refine r_ck (f := (oI Sh)) rfl (fun hc8 => ?_)
  refine q_iast (pc := 103) (j := (gI D 102 1).toNatClampNeg) (K_103 h0) hc8 rfl  d_X12_feed_103 ?_
  refine r_letD (f := (oI Sh)) (fun D9 => ?_)
  refine r_aload_n (pc := 104) 1 d_X12_feed_104 rfl rfl ?_
  refine r_dup (pc := 105) d_X12_feed_105 rfl ?_
  refine q_gI (pc := 106) g_X12_116 (K_102 h0) rfl d_X12_feed_106 ?_
  refine r_iconst (pc := 109) (1 : Int32) d_X12_feed_109 rfl ?_
  refine r_iadd (pc := 110) d_X12_feed_110 ?_
  refine r_putI (pc := 111) p_X12_116 (K_102 h0) rfl (Or.inl rfl) d_X12_feed_111 ?_
  refine r_letD (f := (oI Sh)) (fun D10 => ?_)
  refine r_iinc (pc := 114) ((v6 + (1 : Int32))) 7 (ls' := [(6, .int (v6 + (1 : Int32))), (7, .int w0), (0, .ref 102), (1, .int v1), (2, .int v2), (3, .int v3), (4, .int v4), (5, .int v5)]) d_X12_feed_114 rfl rfl (Nat.le_of_ble_eq_true rfl) rfl ?_
  refine r_goto (pc := 117) 23 d_X12_feed_117 (by decide) ?_
  refine r_pick [2, 3, 4, 5, 6, 7, 0] (ls' := [(0, .ref 102), (1, .int v1), (2, .int v2), (3, .int v3), (4, .int v4), (5, .int v5), (6, .int (v6 + (1 : Int32)))]) rfl ?_
  exact hk23 (v6 + (1 : Int32)) D10 
theorem s_X12_feed_23 {X : zX} {Sh : zSh} {d : Nat} (hst : (zl X).stackTraces = false) (h0 : zSh0 Sh) (hd : 0 ≤ d) {v1 : Int32} {v2 : Int32} {v3 : Int32} {v4 : Int32} {v5 : Int32} : ∀ (n : Nat) (v6 : Int32) (D : zD) , Rn X m_X12_feed (d + 1) 23 [(0, .ref 102), (1, .int v1), (2, .int v2), (3, .int v3), (4, .int v4), (5, .int v5), (6, .int v6)] [] (Sh, D) ((oI Sh) (fn_X12_feed_23 v1 v2 v3 v4 v5 n v6 D)) := by
  intro n
  induction n with
  | zero => intro v6 D; exact Rn_none rfl
  | succ n hk23 =>
    intro v6 D
    rw [fn_X12_feed_23]
    refine r_iload (pc := 23) 6 d_X12_feed_23 rfl ?_
    refine r_bipush (pc := 25) (20 : Int32) d_X12_feed_25 rfl ?_
    refine r_icmp_ge (f := (oI Sh)) (pc := 27) 120 d_X12_feed_27 (by decide) (fun c3 => ?_) (fun c3 => ?_)
    · refine r_aload_n (pc := 120) 0 d_X12_feed_120 rfl rfl ?_
      refine q_gI (pc := 121) g_X12_116 (K_102 h0) rfl d_X12_feed_121 ?_
      exact r_iret (pc := 124) rfl d_X12_feed_124
    · refine r_iload (pc := 30) 6 d_X12_feed_30 rfl ?_
      refine r_iconst (pc := 32) (4 : Int32) d_X12_feed_32 rfl ?_
      refine r_icmp_ge (f := (oI Sh)) (pc := 33) 40 d_X12_feed_33 (by decide) (fun c4 => ?_) (fun c4 => ?_)
      · refine r_iload (pc := 40) 6 d_X12_feed_40 rfl ?_
        refine r_bipush (pc := 42) (8 : Int32) d_X12_feed_42 rfl ?_
        refine r_icmp_ge (f := (oI Sh)) (pc := 44) 51 d_X12_feed_44 (by decide) (fun c5 => ?_) (fun c5 => ?_)
        · refine r_iload (pc := 51) 6 d_X12_feed_51 rfl ?_
          refine r_bipush (pc := 53) (12 : Int32) d_X12_feed_53 rfl ?_
          refine r_icmp_ge (f := (oI Sh)) (pc := 55) 62 d_X12_feed_55 (by decide) (fun c6 => ?_) (fun c6 => ?_)
          · refine r_iload (pc := 62) 6 d_X12_feed_62 rfl ?_
            refine r_bipush (pc := 64) (16 : Int32) d_X12_feed_64 rfl ?_
            refine r_icmp_ge (f := (oI Sh)) (pc := 66) 74 d_X12_feed_66 (by decide) (fun c7 => ?_) (fun c7 => ?_)
            · refine r_iload (pc := 74) 5 d_X12_feed_74 rfl ?_
              refine r_pick [0, 1, 2, 3, 4, 5, 6] (ls' := [(0, .ref 102), (1, .int v1), (2, .int v2), (3, .int v3), (4, .int v4), (5, .int v5), (6, .int v6)]) rfl ?_
              exact s_X12_feed_76 hst h0 hd (fn_X12_feed_23 v1 v2 v3 v4 v5 n) hk23 v6 v5 D
            · refine r_iload (pc := 69) 4 d_X12_feed_69 rfl ?_
              refine r_goto (pc := 71) 76 d_X12_feed_71 (by decide) ?_
              refine r_pick [0, 1, 2, 3, 4, 5, 6] (ls' := [(0, .ref 102), (1, .int v1), (2, .int v2), (3, .int v3), (4, .int v4), (5, .int v5), (6, .int v6)]) rfl ?_
              exact s_X12_feed_76 hst h0 hd (fn_X12_feed_23 v1 v2 v3 v4 v5 n) hk23 v6 v4 D
          · refine r_iload_n (pc := 58) 3 d_X12_feed_58 rfl rfl ?_
            refine r_goto (pc := 59) 76 d_X12_feed_59 (by decide) ?_
            refine r_pick [0, 1, 2, 3, 4, 5, 6] (ls' := [(0, .ref 102), (1, .int v1), (2, .int v2), (3, .int v3), (4, .int v4), (5, .int v5), (6, .int v6)]) rfl ?_
            exact s_X12_feed_76 hst h0 hd (fn_X12_feed_23 v1 v2 v3 v4 v5 n) hk23 v6 v3 D
        · refine r_iload_n (pc := 47) 2 d_X12_feed_47 rfl rfl ?_
          refine r_goto (pc := 48) 76 d_X12_feed_48 (by decide) ?_
          refine r_pick [0, 1, 2, 3, 4, 5, 6] (ls' := [(0, .ref 102), (1, .int v1), (2, .int v2), (3, .int v3), (4, .int v4), (5, .int v5), (6, .int v6)]) rfl ?_
          exact s_X12_feed_76 hst h0 hd (fn_X12_feed_23 v1 v2 v3 v4 v5 n) hk23 v6 v2 D
      · refine r_iload_n (pc := 36) 1 d_X12_feed_36 rfl rfl ?_
        refine r_goto (pc := 37) 76 d_X12_feed_37 (by decide) ?_
        refine r_pick [0, 1, 2, 3, 4, 5, 6] (ls' := [(0, .ref 102), (1, .int v1), (2, .int v2), (3, .int v3), (4, .int v4), (5, .int v5), (6, .int v6)]) rfl ?_
        exact s_X12_feed_76 hst h0 hd (fn_X12_feed_23 v1 v2 v3 v4 v5 n) hk23 v6 v1 D
theorem s_X12_feed {X : zX} {Sh : zSh} {d : Nat} (hst : (zl X).stackTraces = false) (h0 : zSh0 Sh) (hd : 1 ≤ d) {v1 : Int32} {v2 : Int32} {v3 : Int32} {v4 : Int32} {v5 : Int32} {D : zD} : Sd X m_X12_feed d [.ref 102, .int v1, .int v2, .int v3, .int v4, .int v5] (Sh, D) ((oI Sh) (fn_X12_feed v1 v2 v3 v4 v5 D)) := by
  obtain ⟨d, rfl⟩ : ∃ e, d = e + 1 := ⟨d - 1, by omega⟩
  replace hd : 0 ≤ d := by omega
  refine z_body ck_X12_feed rfl (Nat.le_of_ble_eq_true rfl) rfl hst ?_
  rw [fn_X12_feed]
  show Rn X m_X12_feed (d + 1) 0 [(0, .ref 102), (1, .int v1), (2, .int v2), (3, .int v3), (4, .int v4), (5, .int v5)] [] (Sh, D) _
  refine r_aload_n (pc := 0) 0 d_X12_feed_0 rfl rfl ?_
  refine r_iconst (pc := 1) (0 : Int32) d_X12_feed_1 rfl ?_
  refine r_putI (pc := 2) p_X12_113 (K_102 h0) rfl (Or.inl rfl) d_X12_feed_2 ?_
  refine r_letD (f := (oI Sh)) (fun D1 => ?_)
  refine r_aload_n (pc := 5) 0 d_X12_feed_5 rfl rfl ?_
  refine q_gI (pc := 6) g_X12_116 (K_102 h0) rfl d_X12_feed_6 ?_
  refine r_bipush (pc := 9) (20 : Int32) d_X12_feed_9 rfl ?_
  refine r_iadd (pc := 11) d_X12_feed_11 ?_
  refine r_sipush (pc := 12) (500 : Int32) d_X12_feed_12 rfl ?_
  refine r_icmp_le (f := (oI Sh)) (pc := 15) 20 d_X12_feed_15 (by decide) (fun c2 => ?_) (fun c2 => ?_)
  · refine r_iconst (pc := 20) (0 : Int32) d_X12_feed_20 rfl ?_
    refine r_istore (pc := 21) (ls' := [(6, .int (0 : Int32)), (0, .ref 102), (1, .int v1), (2, .int v2), (3, .int v3), (4, .int v4), (5, .int v5)]) d_X12_feed_21 (Nat.le_of_ble_eq_true rfl) rfl ?_
    refine r_pick [1, 2, 3, 4, 5, 6, 0] (ls' := [(0, .ref 102), (1, .int v1), (2, .int v2), (3, .int v3), (4, .int v4), (5, .int v5), (6, .int (0 : Int32))]) rfl ?_
    exact s_X12_feed_23 hst h0 hd zFU  (0 : Int32) D1
  · refine r_iconst (pc := 18) (-1 : Int32) d_X12_feed_18 rfl ?_
    exact r_iret (pc := 19) rfl d_X12_feed_19
/-! CoveredSignsModel.byteAt -/
theorem d_X12_byteAt_0 : decode (yB m_X12_byteAt) 0 = .ok (.iload_n 1, 1) := by decide +kernel
theorem d_X12_byteAt_1 : decode (yB m_X12_byteAt) 1 = .ok (.aload_n 0, 1) := by decide +kernel
theorem d_X12_byteAt_2 : decode (yB m_X12_byteAt) 2 = .ok (.getfield 119, 3) := by decide +kernel
theorem d_X12_byteAt_5 : decode (yB m_X12_byteAt) 5 = .ok (.if_icmp .lt 7, 3) := by decide +kernel
theorem d_X12_byteAt_8 : decode (yB m_X12_byteAt) 8 = .ok (.iconst (-1), 1) := by decide +kernel
theorem d_X12_byteAt_9 : decode (yB m_X12_byteAt) 9 = .ok (.goto 9, 3) := by decide +kernel
theorem d_X12_byteAt_12 : decode (yB m_X12_byteAt) 12 = .ok (.aload_n 0, 1) := by decide +kernel
theorem d_X12_byteAt_13 : decode (yB m_X12_byteAt) 13 = .ok (.getfield 13, 3) := by decide +kernel
theorem d_X12_byteAt_16 : decode (yB m_X12_byteAt) 16 = .ok (.iload_n 1, 1) := by decide +kernel
theorem d_X12_byteAt_17 : decode (yB m_X12_byteAt) 17 = .ok (.iaload, 1) := by decide +kernel
theorem d_X12_byteAt_18 : decode (yB m_X12_byteAt) 18 = .ok (.ireturn, 1) := by decide +kernel
def fn_X12_byteAt (v1 : Int32) (D : zD) : Option Int32 := (if v1 < (gI D 102 2) then (zck v1 500 <| (some (gI D 103 v1.toNatClampNeg))) else ((some (-1 : Int32))))
theorem s_X12_byteAt {X : zX} {Sh : zSh} {d : Nat} (hst : (zl X).stackTraces = false) (h0 : zSh0 Sh) (hd : 1 ≤ d) {v1 : Int32} {D : zD} : Sd X m_X12_byteAt d [.ref 102, .int v1] (Sh, D) ((oP Sh D) (fn_X12_byteAt v1 D)) := by
  obtain ⟨d, rfl⟩ : ∃ e, d = e + 1 := ⟨d - 1, by omega⟩
  replace hd : 0 ≤ d := by omega
  refine z_body ck_X12_byteAt rfl (Nat.le_of_ble_eq_true rfl) rfl hst ?_
  rw [fn_X12_byteAt]
  show Rn X m_X12_byteAt (d + 1) 0 [(0, .ref 102), (1, .int v1)] [] (Sh, D) _
  refine r_iload_n (pc := 0) 1 d_X12_byteAt_0 rfl rfl ?_
  refine r_aload_n (pc := 1) 0 d_X12_byteAt_1 rfl rfl ?_
  refine q_gI (pc := 2) g_X12_119 (K_102 h0) rfl d_X12_byteAt_2 ?_
  refine r_icmp_lt (f := (oP Sh D)) (pc := 5) 12 d_X12_byteAt_5 (by decide) (fun c1 => ?_) (fun c1 => ?_)
  · refine r_aload_n (pc := 12) 0 d_X12_byteAt_12 rfl rfl ?_
    refine r_getR (pc := 13) g_X12_13 (K_102 h0) rfl (R_102_9 h0) d_X12_byteAt_13 ?_
    refine r_iload_n (pc := 16) 1 d_X12_byteAt_16 rfl rfl ?_
    refine r_ck (f := (oP Sh D)) rfl (fun hc2 => ?_)
    refine q_iald (pc := 17) (j := v1.toNatClampNeg) (K_103 h0) hc2 rfl d_X12_byteAt_17 ?_
    exact r_iret (pc := 18) rfl d_X12_byteAt_18
  · refine r_iconst (pc := 8) (-1 : Int32) d_X12_byteAt_8 rfl ?_
    refine r_goto (pc := 9) 18 d_X12_byteAt_9 (by decide) ?_
    exact r_iret (pc := 18) rfl d_X12_byteAt_18
/-! CoveredSignsModel.blanks -/
theorem d_X12_blanks_0 : decode (yB m_X12_blanks) 0 = .ok (.aload_n 0, 1) := by decide +kernel
theorem d_X12_blanks_1 : decode (yB m_X12_blanks) 1 = .ok (.aload_n 0, 1) := by decide +kernel
theorem d_X12_blanks_2 : decode (yB m_X12_blanks) 2 = .ok (.getfield 122, 3) := by decide +kernel
theorem d_X12_blanks_5 : decode (yB m_X12_blanks) 5 = .ok (.invokevirtual 125, 3) := by decide +kernel
theorem d_X12_blanks_8 : decode (yB m_X12_blanks) 8 = .ok (.bipush 32, 2) := by decide +kernel
theorem d_X12_blanks_10 : decode (yB m_X12_blanks) 10 = .ok (.if_icmp .ne 16, 3) := by decide +kernel
theorem d_X12_blanks_13 : decode (yB m_X12_blanks) 13 = .ok (.aload_n 0, 1) := by decide +kernel
theorem d_X12_blanks_14 : decode (yB m_X12_blanks) 14 = .ok (.dup, 1) := by decide +kernel
theorem d_X12_blanks_15 : decode (yB m_X12_blanks) 15 = .ok (.getfield 122, 3) := by decide +kernel
theorem d_X12_blanks_18 : decode (yB m_X12_blanks) 18 = .ok (.iconst 1, 1) := by decide +kernel
theorem d_X12_blanks_19 : decode (yB m_X12_blanks) 19 = .ok (.iadd, 1) := by decide +kernel
theorem d_X12_blanks_20 : decode (yB m_X12_blanks) 20 = .ok (.putfield 122, 3) := by decide +kernel
theorem d_X12_blanks_23 : decode (yB m_X12_blanks) 23 = .ok (.goto (-23), 3) := by decide +kernel
theorem d_X12_blanks_26 : decode (yB m_X12_blanks) 26 = .ok (.return_, 1) := by decide +kernel
def fn_X12_blanks_0  : Nat → zD → Option zD
  | 0, _ => none
  | n + 1, D => (fn_X12_byteAt (gI D 102 4) D).bind fun x1 => (if x1 = (32 : Int32) then (zlet (sI D 102 4 ((gI D 102 4) + (1 : Int32))) fun D3 => ((fn_X12_blanks_0  n) D3)) else ((some D)))
def fn_X12_blanks (D : zD) : Option zD := (fn_X12_blanks_0 zFU D)
theorem s_X12_blanks_0 {X : zX} {Sh : zSh} {d : Nat} (hst : (zl X).stackTraces = false) (h0 : zSh0 Sh) (hd : 1 ≤ d)  : ∀ (n : Nat)  (D : zD) , Rn X m_X12_blanks (d + 1) 0 [(0, .ref 102)] [] (Sh, D) ((oV Sh) (fn_X12_blanks_0  n D)) := by
  intro n
  induction n with
  | zero => intro D; exact Rn_none rfl
  | succ n hk0 =>
    intro D
    rw [fn_X12_blanks_0]
    refine r_aload_n (pc := 0) 0 d_X12_blanks_0 rfl rfl ?_
    refine r_aload_n (pc := 1) 0 d_X12_blanks_1 rfl rfl ?_
    refine q_gI (pc := 2) g_X12_122 (K_102 h0) rfl d_X12_blanks_2 ?_
    refine q_cP (f := (oV Sh)) (av := [.ref 102, .int (gI D 102 4)]) (st := []) (z_runV ck_X12_byteAt rfl ml_X12_125 ci_X12_byteAt cv_X12_byteAt (K_102 h0) (ci := 12) rfl rfl (Nat.le_of_ble_eq_true rfl) d_X12_blanks_5) (s_X12_byteAt hst h0 (by omega)) kp_V (fun x1 _ => ?_)
    refine r_bipush (pc := 8) (32 : Int32) d_X12_blanks_8 rfl ?_
    refine r_icmp_ne (f := (oV Sh)) (pc := 10) 26 d_X12_blanks_10 (by decide) (fun c2 => ?_) (fun c2 => ?_)
    · exact r_vret (pc := 26) rfl d_X12_blanks_26
    · refine r_aload_n (pc := 13) 0 d_X12_blanks_13 rfl rfl ?_
      refine r_dup (pc := 14) d_X12_blanks_14 rfl ?_
      refine q_gI (pc := 15) g_X12_122 (K_102 h0) rfl d_X12_blanks_15 ?_
      refine r_iconst (pc := 18) (1 : Int32) d_X12_blanks_18 rfl ?_
      refine r_iadd (pc := 19) d_X12_blanks_19 ?_
      refine r_putI (pc := 20) p_X12_122 (K_102 h0) rfl (Or.inl rfl) d_X12_blanks_20 ?_
      refine r_letD (f := (oV Sh)) (fun D3 => ?_)
      refine r_goto (pc := 23) 0 d_X12_blanks_23 (by decide) ?_
      refine r_pick [0] (ls' := [(0, .ref 102)]) rfl ?_
      exact hk0 D3 
theorem s_X12_blanks {X : zX} {Sh : zSh} {d : Nat} (hst : (zl X).stackTraces = false) (h0 : zSh0 Sh) (hd : 2 ≤ d)  {D : zD} : Sd X m_X12_blanks d [.ref 102] (Sh, D) ((oV Sh) (fn_X12_blanks D)) := by
  obtain ⟨d, rfl⟩ : ∃ e, d = e + 1 := ⟨d - 1, by omega⟩
  replace hd : 1 ≤ d := by omega
  refine z_body ck_X12_blanks rfl (Nat.le_of_ble_eq_true rfl) rfl hst ?_
  rw [fn_X12_blanks]
  show Rn X m_X12_blanks (d + 1) 0 [(0, .ref 102)] [] (Sh, D) _
  refine r_pick [0] (ls' := [(0, .ref 102)]) rfl ?_
  exact s_X12_blanks_0 hst h0 hd zFU  D
/-! CoveredSignsModel.wrong -/
theorem d_X12_wrong_0 : decode (yB m_X12_wrong) 0 = .ok (.aload_n 0, 1) := by decide +kernel
theorem d_X12_wrong_1 : decode (yB m_X12_wrong) 1 = .ok (.getfield 129, 3) := by decide +kernel
theorem d_X12_wrong_4 : decode (yB m_X12_wrong) 4 = .ok (.ifCond .ne 13, 3) := by decide +kernel
theorem d_X12_wrong_7 : decode (yB m_X12_wrong) 7 = .ok (.aload_n 0, 1) := by decide +kernel
theorem d_X12_wrong_8 : decode (yB m_X12_wrong) 8 = .ok (.iload_n 1, 1) := by decide +kernel
theorem d_X12_wrong_9 : decode (yB m_X12_wrong) 9 = .ok (.putfield 129, 3) := by decide +kernel
theorem d_X12_wrong_12 : decode (yB m_X12_wrong) 12 = .ok (.aload_n 0, 1) := by decide +kernel
theorem d_X12_wrong_13 : decode (yB m_X12_wrong) 13 = .ok (.iload_n 2, 1) := by decide +kernel
theorem d_X12_wrong_14 : decode (yB m_X12_wrong) 14 = .ok (.putfield 132, 3) := by decide +kernel
theorem d_X12_wrong_17 : decode (yB m_X12_wrong) 17 = .ok (.return_, 1) := by decide +kernel
def fn_X12_wrong (v1 : Int32) (v2 : Int32) (D : zD) : Option zD := (if (gI D 102 5) = 0 then (zlet (sI D 102 5 v1) fun D2 => zlet (sI D2 102 6 v2) fun D3 => (some D3)) else ((some D)))
theorem s_X12_wrong {X : zX} {Sh : zSh} {d : Nat} (hst : (zl X).stackTraces = false) (h0 : zSh0 Sh) (hd : 1 ≤ d) {v1 : Int32} {v2 : Int32} {D : zD} : Sd X m_X12_wrong d [.ref 102, .int v1, .int v2] (Sh, D) ((oV Sh) (fn_X12_wrong v1 v2 D)) := by
  obtain ⟨d, rfl⟩ : ∃ e, d = e + 1 := ⟨d - 1, by omega⟩
  replace hd : 0 ≤ d := by omega
  refine z_body ck_X12_wrong rfl (Nat.le_of_ble_eq_true rfl) rfl hst ?_
  rw [fn_X12_wrong]
  show Rn X m_X12_wrong (d + 1) 0 [(0, .ref 102), (1, .int v1), (2, .int v2)] [] (Sh, D) _
  refine r_aload_n (pc := 0) 0 d_X12_wrong_0 rfl rfl ?_
  refine q_gI (pc := 1) g_X12_129 (K_102 h0) rfl d_X12_wrong_1 ?_
  refine r_if_ne (f := (oV Sh)) (pc := 4) 17 d_X12_wrong_4 (by decide) (fun c1 => ?_) (fun c1 => ?_)
  · exact r_vret (pc := 17) rfl d_X12_wrong_17
  · refine r_aload_n (pc := 7) 0 d_X12_wrong_7 rfl rfl ?_
    refine r_iload_n (pc := 8) 1 d_X12_wrong_8 rfl rfl ?_
    refine r_putI (pc := 9) p_X12_129 (K_102 h0) rfl (Or.inl rfl) d_X12_wrong_9 ?_
    refine r_letD (f := (oV Sh)) (fun D2 => ?_)
    refine r_aload_n (pc := 12) 0 d_X12_wrong_12 rfl rfl ?_
    refine r_iload_n (pc := 13) 2 d_X12_wrong_13 rfl rfl ?_
    refine r_putI (pc := 14) p_X12_132 (K_102 h0) rfl (Or.inl rfl) d_X12_wrong_14 ?_
    refine r_letD (f := (oV Sh)) (fun D3 => ?_)
    exact r_vret (pc := 17) rfl d_X12_wrong_17
/-! CoveredSignsModel.isDigit -/
theorem d_X12_isDigit_0 : decode (yB m_X12_isDigit) 0 = .ok (.iload_n 0, 1) := by decide +kernel
theorem d_X12_isDigit_1 : decode (yB m_X12_isDigit) 1 = .ok (.bipush 48, 2) := by decide +kernel
theorem d_X12_isDigit_3 : decode (yB m_X12_isDigit) 3 = .ok (.if_icmp .lt 13, 3) := by decide +kernel
theorem d_X12_isDigit_6 : decode (yB m_X12_isDigit) 6 = .ok (.iload_n 0, 1) := by decide +kernel
theorem d_X12_isDigit_7 : decode (yB m_X12_isDigit) 7 = .ok (.bipush 57, 2) := by decide +kernel
theorem d_X12_isDigit_9 : decode (yB m_X12_isDigit) 9 = .ok (.if_icmp .gt 7, 3) := by decide +kernel
theorem d_X12_isDigit_12 : decode (yB m_X12_isDigit) 12 = .ok (.iconst 1, 1) := by decide +kernel
theorem d_X12_isDigit_13 : decode (yB m_X12_isDigit) 13 = .ok (.goto 4, 3) := by decide +kernel
theorem d_X12_isDigit_16 : decode (yB m_X12_isDigit) 16 = .ok (.iconst 0, 1) := by decide +kernel
theorem d_X12_isDigit_17 : decode (yB m_X12_isDigit) 17 = .ok (.ireturn, 1) := by decide +kernel
def fn_X12_isDigit (v0 : Int32) : Option Int32 := (if v0 < (48 : Int32) then ((some (0 : Int32))) else ((if (57 : Int32) < v0 then ((some (0 : Int32))) else ((some (1 : Int32))))))
theorem s_X12_isDigit {X : zX} {Sh : zSh} {d : Nat} (hst : (zl X).stackTraces = false) (h0 : zSh0 Sh) (hd : 1 ≤ d) {v0 : Int32} {D : zD} : Sd X m_X12_isDigit d [.int v0] (Sh, D) ((oP Sh D) (fn_X12_isDigit v0)) := by
  obtain ⟨d, rfl⟩ : ∃ e, d = e + 1 := ⟨d - 1, by omega⟩
  replace hd : 0 ≤ d := by omega
  refine z_body ck_X12_isDigit rfl (Nat.le_of_ble_eq_true rfl) rfl hst ?_
  rw [fn_X12_isDigit]
  show Rn X m_X12_isDigit (d + 1) 0 [(0, .int v0)] [] (Sh, D) _
  refine r_iload_n (pc := 0) 0 d_X12_isDigit_0 rfl rfl ?_
  refine r_bipush (pc := 1) (48 : Int32) d_X12_isDigit_1 rfl ?_
  refine r_icmp_lt (f := (oP Sh D)) (pc := 3) 16 d_X12_isDigit_3 (by decide) (fun c1 => ?_) (fun c1 => ?_)
  · refine r_iconst (pc := 16) (0 : Int32) d_X12_isDigit_16 rfl ?_
    exact r_zret (pc := 17) rfl (by decide) d_X12_isDigit_17
  · refine r_iload_n (pc := 6) 0 d_X12_isDigit_6 rfl rfl ?_
    refine r_bipush (pc := 7) (57 : Int32) d_X12_isDigit_7 rfl ?_
    refine r_icmp_gt (f := (oP Sh D)) (pc := 9) 16 d_X12_isDigit_9 (by decide) (fun c2 => ?_) (fun c2 => ?_)
    · refine r_iconst (pc := 16) (0 : Int32) d_X12_isDigit_16 rfl ?_
      exact r_zret (pc := 17) rfl (by decide) d_X12_isDigit_17
    · refine r_iconst (pc := 12) (1 : Int32) d_X12_isDigit_12 rfl ?_
      refine r_goto (pc := 13) 17 d_X12_isDigit_13 (by decide) ?_
      exact r_zret (pc := 17) rfl (by decide) d_X12_isDigit_17
/-! CoveredSignsModel.isSmall -/
theorem d_X12_isSmall_0 : decode (yB m_X12_isSmall) 0 = .ok (.iload_n 0, 1) := by decide +kernel
theorem d_X12_isSmall_1 : decode (yB m_X12_isSmall) 1 = .ok (.bipush 97, 2) := by decide +kernel
theorem d_X12_isSmall_3 : decode (yB m_X12_isSmall) 3 = .ok (.if_icmp .lt 13, 3) := by decide +kernel
theorem d_X12_isSmall_6 : decode (yB m_X12_isSmall) 6 = .ok (.iload_n 0, 1) := by decide +kernel
theorem d_X12_isSmall_7 : decode (yB m_X12_isSmall) 7 = .ok (.bipush 122, 2) := by decide +kernel
theorem d_X12_isSmall_9 : decode (yB m_X12_isSmall) 9 = .ok (.if_icmp .gt 7, 3) := by decide +kernel
theorem d_X12_isSmall_12 : decode (yB m_X12_isSmall) 12 = .ok (.iconst 1, 1) := by decide +kernel
theorem d_X12_isSmall_13 : decode (yB m_X12_isSmall) 13 = .ok (.goto 4, 3) := by decide +kernel
theorem d_X12_isSmall_16 : decode (yB m_X12_isSmall) 16 = .ok (.iconst 0, 1) := by decide +kernel
theorem d_X12_isSmall_17 : decode (yB m_X12_isSmall) 17 = .ok (.ireturn, 1) := by decide +kernel
def fn_X12_isSmall (v0 : Int32) : Option Int32 := (if v0 < (97 : Int32) then ((some (0 : Int32))) else ((if (122 : Int32) < v0 then ((some (0 : Int32))) else ((some (1 : Int32))))))
theorem s_X12_isSmall {X : zX} {Sh : zSh} {d : Nat} (hst : (zl X).stackTraces = false) (h0 : zSh0 Sh) (hd : 1 ≤ d) {v0 : Int32} {D : zD} : Sd X m_X12_isSmall d [.int v0] (Sh, D) ((oP Sh D) (fn_X12_isSmall v0)) := by
  obtain ⟨d, rfl⟩ : ∃ e, d = e + 1 := ⟨d - 1, by omega⟩
  replace hd : 0 ≤ d := by omega
  refine z_body ck_X12_isSmall rfl (Nat.le_of_ble_eq_true rfl) rfl hst ?_
  rw [fn_X12_isSmall]
  show Rn X m_X12_isSmall (d + 1) 0 [(0, .int v0)] [] (Sh, D) _
  refine r_iload_n (pc := 0) 0 d_X12_isSmall_0 rfl rfl ?_
  refine r_bipush (pc := 1) (97 : Int32) d_X12_isSmall_1 rfl ?_
  refine r_icmp_lt (f := (oP Sh D)) (pc := 3) 16 d_X12_isSmall_3 (by decide) (fun c1 => ?_) (fun c1 => ?_)
  · refine r_iconst (pc := 16) (0 : Int32) d_X12_isSmall_16 rfl ?_
    exact r_zret (pc := 17) rfl (by decide) d_X12_isSmall_17
  · refine r_iload_n (pc := 6) 0 d_X12_isSmall_6 rfl rfl ?_
    refine r_bipush (pc := 7) (122 : Int32) d_X12_isSmall_7 rfl ?_
    refine r_icmp_gt (f := (oP Sh D)) (pc := 9) 16 d_X12_isSmall_9 (by decide) (fun c2 => ?_) (fun c2 => ?_)
    · refine r_iconst (pc := 16) (0 : Int32) d_X12_isSmall_16 rfl ?_
      exact r_zret (pc := 17) rfl (by decide) d_X12_isSmall_17
    · refine r_iconst (pc := 12) (1 : Int32) d_X12_isSmall_12 rfl ?_
      refine r_goto (pc := 13) 17 d_X12_isSmall_13 (by decide) ?_
      exact r_zret (pc := 17) rfl (by decide) d_X12_isSmall_17
/-! CoveredSignsModel.number -/
theorem d_X12_number_0 : decode (yB m_X12_number) 0 = .ok (.aload_n 0, 1) := by decide +kernel
theorem d_X12_number_1 : decode (yB m_X12_number) 1 = .ok (.getfield 129, 3) := by decide +kernel
theorem d_X12_number_4 : decode (yB m_X12_number) 4 = .ok (.ifCond .eq 5, 3) := by decide +kernel
theorem d_X12_number_7 : decode (yB m_X12_number) 7 = .ok (.iconst 0, 1) := by decide +kernel
theorem d_X12_number_8 : decode (yB m_X12_number) 8 = .ok (.ireturn, 1) := by decide +kernel
theorem d_X12_number_9 : decode (yB m_X12_number) 9 = .ok (.aload_n 0, 1) := by decide +kernel
theorem d_X12_number_10 : decode (yB m_X12_number) 10 = .ok (.invokevirtual 135, 3) := by decide +kernel
theorem d_X12_number_13 : decode (yB m_X12_number) 13 = .ok (.aload_n 0, 1) := by decide +kernel
theorem d_X12_number_14 : decode (yB m_X12_number) 14 = .ok (.getfield 122, 3) := by decide +kernel
theorem d_X12_number_17 : decode (yB m_X12_number) 17 = .ok (.istore_n 3, 1) := by decide +kernel
theorem d_X12_number_18 : decode (yB m_X12_number) 18 = .ok (.iconst 0, 1) := by decide +kernel
theorem d_X12_number_19 : decode (yB m_X12_number) 19 = .ok (.istore 4, 2) := by decide +kernel
theorem d_X12_number_21 : decode (yB m_X12_number) 21 = .ok (.aload_n 0, 1) := by decide +kernel
theorem d_X12_number_22 : decode (yB m_X12_number) 22 = .ok (.aload_n 0, 1) := by decide +kernel
theorem d_X12_number_23 : decode (yB m_X12_number) 23 = .ok (.getfield 122, 3) := by decide +kernel
theorem d_X12_number_26 : decode (yB m_X12_number) 26 = .ok (.invokevirtual 125, 3) := by decide +kernel
theorem d_X12_number_29 : decode (yB m_X12_number) 29 = .ok (.invokestatic 138, 3) := by decide +kernel
theorem d_X12_number_32 : decode (yB m_X12_number) 32 = .ok (.ifCond .ne 12, 3) := by decide +kernel
theorem d_X12_number_35 : decode (yB m_X12_number) 35 = .ok (.aload_n 0, 1) := by decide +kernel
theorem d_X12_number_36 : decode (yB m_X12_number) 36 = .ok (.iconst 1, 1) := by decide +kernel
theorem d_X12_number_37 : decode (yB m_X12_number) 37 = .ok (.aload_n 0, 1) := by decide +kernel
theorem d_X12_number_38 : decode (yB m_X12_number) 38 = .ok (.getfield 122, 3) := by decide +kernel
theorem d_X12_number_41 : decode (yB m_X12_number) 41 = .ok (.invokevirtual 142, 3) := by decide +kernel
theorem d_X12_number_44 : decode (yB m_X12_number) 44 = .ok (.aload_n 0, 1) := by decide +kernel
theorem d_X12_number_45 : decode (yB m_X12_number) 45 = .ok (.aload_n 0, 1) := by decide +kernel
theorem d_X12_number_46 : decode (yB m_X12_number) 46 = .ok (.getfield 122, 3) := by decide +kernel
theorem d_X12_number_49 : decode (yB m_X12_number) 49 = .ok (.invokevirtual 125, 3) := by decide +kernel
theorem d_X12_number_52 : decode (yB m_X12_number) 52 = .ok (.invokestatic 138, 3) := by decide +kernel
theorem d_X12_number_55 : decode (yB m_X12_number) 55 = .ok (.ifCond .eq 51, 3) := by decide +kernel
theorem d_X12_number_58 : decode (yB m_X12_number) 58 = .ok (.bipush 10, 2) := by decide +kernel
theorem d_X12_number_60 : decode (yB m_X12_number) 60 = .ok (.iload 4, 2) := by decide +kernel
theorem d_X12_number_62 : decode (yB m_X12_number) 62 = .ok (.imul, 1) := by decide +kernel
theorem d_X12_number_63 : decode (yB m_X12_number) 63 = .ok (.aload_n 0, 1) := by decide +kernel
theorem d_X12_number_64 : decode (yB m_X12_number) 64 = .ok (.aload_n 0, 1) := by decide +kernel
theorem d_X12_number_65 : decode (yB m_X12_number) 65 = .ok (.getfield 122, 3) := by decide +kernel
theorem d_X12_number_68 : decode (yB m_X12_number) 68 = .ok (.invokevirtual 125, 3) := by decide +kernel
theorem d_X12_number_71 : decode (yB m_X12_number) 71 = .ok (.iadd, 1) := by decide +kernel
theorem d_X12_number_72 : decode (yB m_X12_number) 72 = .ok (.bipush 48, 2) := by decide +kernel
theorem d_X12_number_74 : decode (yB m_X12_number) 74 = .ok (.isub, 1) := by decide +kernel
theorem d_X12_number_75 : decode (yB m_X12_number) 75 = .ok (.istore 4, 2) := by decide +kernel
theorem d_X12_number_77 : decode (yB m_X12_number) 77 = .ok (.iload 4, 2) := by decide +kernel
theorem d_X12_number_79 : decode (yB m_X12_number) 79 = .ok (.ldc 146, 2) := by decide +kernel
theorem d_X12_number_81 : decode (yB m_X12_number) 81 = .ok (.if_icmp .le 8, 3) := by decide +kernel
theorem d_X12_number_84 : decode (yB m_X12_number) 84 = .ok (.ldc 146, 2) := by decide +kernel
theorem d_X12_number_86 : decode (yB m_X12_number) 86 = .ok (.goto 5, 3) := by decide +kernel
theorem d_X12_number_89 : decode (yB m_X12_number) 89 = .ok (.iload 4, 2) := by decide +kernel
theorem d_X12_number_91 : decode (yB m_X12_number) 91 = .ok (.istore 4, 2) := by decide +kernel
theorem d_X12_number_93 : decode (yB m_X12_number) 93 = .ok (.aload_n 0, 1) := by decide +kernel
theorem d_X12_number_94 : decode (yB m_X12_number) 94 = .ok (.dup, 1) := by decide +kernel
theorem d_X12_number_95 : decode (yB m_X12_number) 95 = .ok (.getfield 122, 3) := by decide +kernel
theorem d_X12_number_98 : decode (yB m_X12_number) 98 = .ok (.iconst 1, 1) := by decide +kernel
theorem d_X12_number_99 : decode (yB m_X12_number) 99 = .ok (.iadd, 1) := by decide +kernel
theorem d_X12_number_100 : decode (yB m_X12_number) 100 = .ok (.putfield 122, 3) := by decide +kernel
theorem d_X12_number_103 : decode (yB m_X12_number) 103 = .ok (.goto (-59), 3) := by decide +kernel
theorem d_X12_number_106 : decode (yB m_X12_number) 106 = .ok (.iload 4, 2) := by decide +kernel
theorem d_X12_number_108 : decode (yB m_X12_number) 108 = .ok (.iload_n 1, 1) := by decide +kernel
theorem d_X12_number_109 : decode (yB m_X12_number) 109 = .ok (.iload_n 2, 1) := by decide +kernel
theorem d_X12_number_110 : decode (yB m_X12_number) 110 = .ok (.invokestatic 147, 3) := by decide +kernel
theorem d_X12_number_113 : decode (yB m_X12_number) 113 = .ok (.ifCond .ne 9, 3) := by decide +kernel
theorem d_X12_number_116 : decode (yB m_X12_number) 116 = .ok (.aload_n 0, 1) := by decide +kernel
theorem d_X12_number_117 : decode (yB m_X12_number) 117 = .ok (.iconst 2, 1) := by decide +kernel
theorem d_X12_number_118 : decode (yB m_X12_number) 118 = .ok (.iload_n 3, 1) := by decide +kernel
theorem d_X12_number_119 : decode (yB m_X12_number) 119 = .ok (.invokevirtual 142, 3) := by decide +kernel
theorem d_X12_number_122 : decode (yB m_X12_number) 122 = .ok (.aload_n 0, 1) := by decide +kernel
theorem d_X12_number_123 : decode (yB m_X12_number) 123 = .ok (.getfield 129, 3) := by decide +kernel
theorem d_X12_number_126 : decode (yB m_X12_number) 126 = .ok (.ifCond .ne 8, 3) := by decide +kernel
theorem d_X12_number_129 : decode (yB m_X12_number) 129 = .ok (.iload 4, 2) := by decide +kernel
theorem d_X12_number_131 : decode (yB m_X12_number) 131 = .ok (.goto 4, 3) := by decide +kernel
theorem d_X12_number_134 : decode (yB m_X12_number) 134 = .ok (.iconst 0, 1) := by decide +kernel
theorem d_X12_number_135 : decode (yB m_X12_number) 135 = .ok (.ireturn, 1) := by decide +kernel
def fn_X12_number_122 (v1 : Int32) (v2 : Int32) (v4 : Int32) (D : zD) : Option (Int32 × zD) := (if (gI D 102 5) = 0 then ((some (v4, D))) else ((some ((0 : Int32), D))))
def fn_X12_number_106 (v1 : Int32) (v2 : Int32) (v3 : Int32) (v4 : Int32) (D : zD) : Option (Int32 × zD) := (fn_X12_in v4 v1 v2).bind fun x10 => (if x10 = 0 then ((fn_X12_wrong (2 : Int32) v3 D).bind fun D13 => (fn_X12_number_122 v1 v2 v4 D13)) else ((fn_X12_number_122 v1 v2 v4 D)))
def fn_X12_number_91 (v1 : Int32) (v2 : Int32) (k44 : Int32 → Int32 → zD → Option (Int32 × zD)) (v3 : Int32) (w0 : Int32) (D : zD) : Option (Int32 × zD) := zlet (sI D 102 4 ((gI D 102 4) + (1 : Int32))) fun D17 => (k44 v3 w0 D17)
def fn_X12_number_44 (v1 : Int32) (v2 : Int32) : Nat → Int32 → Int32 → zD → Option (Int32 × zD)
  | 0, _, _, _ => none
  | n + 1, v3, v4, D => (fn_X12_byteAt (gI D 102 4) D).bind fun x7 => (fn_X12_isDigit x7).bind fun x8 => (if x8 = 0 then ((fn_X12_number_106 v1 v2 v3 v4 D)) else ((fn_X12_byteAt (gI D 102 4) D).bind fun x14 => zlet ((((10 : Int32) * v4) + x14) - (48 : Int32)) fun x15 => (if x15 ≤ (100000 : Int32) then ((fn_X12_number_91 v1 v2 (fn_X12_number_44 v1 v2 n) v3 x15 D)) else ((fn_X12_number_91 v1 v2 (fn_X12_number_44 v1 v2 n) v3 (100000 : Int32) D)))))
def fn_X12_number (v1 : Int32) (v2 : Int32) (D : zD) : Option (Int32 × zD) := (if (gI D 102 5) = 0 then ((fn_X12_blanks D).bind fun D2 => zlet (gI D2 102 4) fun x3 => (fn_X12_byteAt (gI D2 102 4) D2).bind fun x4 => (fn_X12_isDigit x4).bind fun x5 => (if x5 = 0 then ((fn_X12_wrong (1 : Int32) (gI D2 102 4) D2).bind fun D18 => (fn_X12_number_44 v1 v2 zFU x3 (0 : Int32) D18)) else ((fn_X12_number_44 v1 v2 zFU x3 (0 : Int32) D2)))) else ((some ((0 : Int32), D))))
theorem s_X12_number_122 {X : zX} {Sh : zSh} {d : Nat} (hst : (zl X).stackTraces = false) (h0 : zSh0 Sh) (hd : 2 ≤ d) {v1 : Int32} {v2 : Int32} (v4 : Int32) (D : zD)  : Rn X m_X12_number (d + 1) 122 [(0, .ref 102), (4, .int v4)] [] (Sh, D) ((oI Sh) (fn_X12_number_122 v1 v2 v4 D)) := by
  rw [fn_X12_number_122]
  refine r_aload_n (pc := 122) 0 d_X12_number_122 rfl rfl ?_
  refine q_gI (pc := 123) g_X12_129 (K_102 h0) rfl d_X12_number_123 ?_
  refine r_if_ne (f := (oI Sh)) (pc := 126) 134 d_X12_number_126 (by decide) (fun c12 => ?_) (fun c12 => ?_)
  · refine r_iconst (pc := 134) (0 : Int32) d_X12_number_134 rfl ?_
    exact r_iret (pc := 135) rfl d_X12_number_135
  · refine r_iload (pc := 129) 1 d_X12_number_129 rfl ?_
    refine r_goto (pc := 131) 135 d_X12_number_131 (by decide) ?_
    exact r_iret (pc := 135) rfl d_X12_number_135
theorem s_X12_number_106 {X : zX} {Sh : zSh} {d : Nat} (hst : (zl X).stackTraces = false) (h0 : zSh0 Sh) (hd : 2 ≤ d) {v1 : Int32} {v2 : Int32} (v3 : Int32) (v4 : Int32) (D : zD)  : Rn X m_X12_number (d + 1) 106 [(0, .ref 102), (1, .int v1), (2, .int v2), (3, .int v3), (4, .int v4)] [] (Sh, D) ((oI Sh) (fn_X12_number_106 v1 v2 v3 v4 D)) := by
  rw [fn_X12_number_106]
  refine r_iload (pc := 106) 4 d_X12_number_106 rfl ?_
  refine r_iload_n (pc := 108) 1 d_X12_number_108 rfl rfl ?_
  refine r_iload_n (pc := 109) 2 d_X12_number_109 rfl rfl ?_
  refine q_cP (f := (oI Sh)) (av := [.int v4, .int v1, .int v2]) (st := []) (z_runS ck_X12_in rfl ml_X12_147 cs_X12_in rfl (Nat.le_of_ble_eq_true rfl) d_X12_number_110) (s_X12_in hst h0 (by omega)) kp_I (fun x10 _ => ?_)
  refine r_if_ne (f := (oI Sh)) (pc := 113) 122 d_X12_number_113 (by decide) (fun c11 => ?_) (fun c11 => ?_)
  · refine r_pick [0, 4] (ls' := [(0, .ref 102), (4, .int v4)]) rfl ?_
    exact s_X12_number_122 hst h0 hd v4 D
  · refine r_aload_n (pc := 116) 0 d_X12_number_116 rfl rfl ?_
    refine r_iconst (pc := 117) (2 : Int32) d_X12_number_117 rfl ?_
    refine r_iload_n (pc := 118) 3 d_X12_number_118 rfl rfl ?_
    refine q_cV (f := (oI Sh)) (av := [.ref 102, .int (2 : Int32), .int v3]) (st := []) (z_runV ck_X12_wrong rfl ml_X12_142 ci_X12_wrong cv_X12_wrong (K_102 h0) (ci := 12) rfl rfl (Nat.le_of_ble_eq_true rfl) d_X12_number_119) (s_X12_wrong hst h0 (by omega)) kp_I (fun D13 _ => ?_)
    refine r_pick [0, 4] (ls' := [(0, .ref 102), (4, .int v4)]) rfl ?_
    exact s_X12_number_122 hst h0 hd v4 D13
theorem s_X12_number_91 {X : zX} {Sh : zSh} {d : Nat} (hst : (zl X).stackTraces = false) (h0 : zSh0 Sh) (hd : 2 ≤ d) {v1 : Int32} {v2 : Int32} (k44 : Int32 → Int32 → zD → Option (Int32 × zD)) (hk44 : ∀ (v3 : Int32) (v4 : Int32) (D : zD) , Rn X m_X12_number (d + 1) 44 [(0, .ref 102), (1, .int v1), (2, .int v2), (3, .int v3), (4, .int v4)] [] (Sh, D) ((oI Sh) (k44 v3 v4 D))) (v3 : Int32) (w0 : Int32) (D : zD)  : Rn X m_X12_number (d + 1) 91 [(0, .ref 102), (1, .int v1), (2, .int v2), (3, .int v3)] [.int w0] (Sh, D) ((oI Sh) (fn_X12_number_91 v1 v2 k44 v3 w0 D)) := by
  rw [fn_X12_number_91]
  refine r_istore (pc := 91) (ls' := [(4, .int w0), (0, .ref 102), (1, .int v1), (2, .int v2), (3, .int v3)]) d_X12_number_91 (Nat.le_of_ble_eq_true rfl) rfl ?_
  refine r_aload_n (pc := 93) 1 d_X12_number_93 rfl rfl ?_
  refine r_dup (pc := 94) d_X12_number_94 rfl ?_
  refine q_gI (pc := 95) g_X12_122 (K_102 h0) rfl d_X12_number_95 ?_
  refine r_iconst (pc := 98) (1 : Int32) d_X12_number_98 rfl ?_
  refine r_iadd (pc := 99) d_X12_number_99 ?_
  refine r_putI (pc := 100) p_X12_122 (K_102 h0) rfl (Or.inl rfl) d_X12_number_100 ?_
  refine r_letD (f := (oI Sh)) (fun D17 => ?_)
  refine r_goto (pc := 103) 44 d_X12_number_103 (by decide) ?_
  refine r_pick [1, 2, 3, 4, 0] (ls' := [(0, .ref 102), (1, .int v1), (2, .int v2), (3, .int v3), (4, .int w0)]) rfl ?_
  exact hk44 v3 w0 D17 
theorem s_X12_number_44 {X : zX} {Sh : zSh} {d : Nat} (hst : (zl X).stackTraces = false) (h0 : zSh0 Sh) (hd : 2 ≤ d) {v1 : Int32} {v2 : Int32} : ∀ (n : Nat) (v3 : Int32) (v4 : Int32) (D : zD) , Rn X m_X12_number (d + 1) 44 [(0, .ref 102), (1, .int v1), (2, .int v2), (3, .int v3), (4, .int v4)] [] (Sh, D) ((oI Sh) (fn_X12_number_44 v1 v2 n v3 v4 D)) := by
  intro n
  induction n with
  | zero => intro v3 v4 D; exact Rn_none rfl
  | succ n hk44 =>
    intro v3 v4 D
    rw [fn_X12_number_44]
    refine r_aload_n (pc := 44) 0 d_X12_number_44 rfl rfl ?_
    refine r_aload_n (pc := 45) 0 d_X12_number_45 rfl rfl ?_
    refine q_gI (pc := 46) g_X12_122 (K_102 h0) rfl d_X12_number_46 ?_
    refine q_cP (f := (oI Sh)) (av := [.ref 102, .int (gI D 102 4)]) (st := []) (z_runV ck_X12_byteAt rfl ml_X12_125 ci_X12_byteAt cv_X12_byteAt (K_102 h0) (ci := 12) rfl rfl (Nat.le_of_ble_eq_true rfl) d_X12_number_49) (s_X12_byteAt hst h0 (by omega)) kp_I (fun x7 _ => ?_)
    refine q_cP (f := (oI Sh)) (av := [.int x7]) (st := []) (z_runS ck_X12_isDigit rfl ml_X12_138 cs_X12_isDigit rfl (Nat.le_of_ble_eq_true rfl) d_X12_number_52) (s_X12_isDigit hst h0 (by omega)) kp_I (fun x8 _ => ?_)
    refine r_if_eq (f := (oI Sh)) (pc := 55) 106 d_X12_number_55 (by decide) (fun c9 => ?_) (fun c9 => ?_)
    · refine r_pick [0, 1, 2, 3, 4] (ls' := [(0, .ref 102), (1, .int v1), (2, .int v2), (3, .int v3), (4, .int v4)]) rfl ?_
      exact s_X12_number_106 hst h0 hd v3 v4 D
    · refine r_bipush (pc := 58) (10 : Int32) d_X12_number_58 rfl ?_
      refine r_iload (pc := 60) 4 d_X12_number_60 rfl ?_
      refine r_imul (pc := 62) d_X12_number_62 ?_
      refine r_aload_n (pc := 63) 0 d_X12_number_63 rfl rfl ?_
      refine r_aload_n (pc := 64) 0 d_X12_number_64 rfl rfl ?_
      refine q_gI (pc := 65) g_X12_122 (K_102 h0) rfl d_X12_number_65 ?_
      refine q_cP (f := (oI Sh)) (av := [.ref 102, .int (gI D 102 4)]) (st := [.int ((10 : Int32) * v4)]) (z_runV ck_X12_byteAt rfl ml_X12_125 ci_X12_byteAt cv_X12_byteAt (K_102 h0) (ci := 12) rfl rfl (Nat.le_of_ble_eq_true rfl) d_X12_number_68) (s_X12_byteAt hst h0 (by omega)) kp_I (fun x14 _ => ?_)
      refine r_iadd (pc := 71) d_X12_number_71 ?_
      refine r_bipush (pc := 72) (48 : Int32) d_X12_number_72 rfl ?_
      refine r_isub (pc := 74) d_X12_number_74 ?_
      refine r_leti (f := (oI Sh)) (fun x15 => ?_)
      refine r_istore (pc := 75) (ls' := [(4, .int x15), (0, .ref 102), (1, .int v1), (2, .int v2), (3, .int v3)]) d_X12_number_75 (Nat.le_of_ble_eq_true rfl) rfl ?_
      refine r_iload (pc := 77) 0 d_X12_number_77 rfl ?_
      refine r_ldc (pc := 79) d_X12_number_79 cc_X12_146 ?_
      refine r_icmp_le (f := (oI Sh)) (pc := 81) 89 d_X12_number_81 (by decide) (fun c16 => ?_) (fun c16 => ?_)
      · refine r_iload (pc := 89) 0 d_X12_number_89 rfl ?_
        refine r_pick [1, 2, 3, 4] (ls' := [(0, .ref 102), (1, .int v1), (2, .int v2), (3, .int v3)]) rfl ?_
        exact s_X12_number_91 hst h0 hd (fn_X12_number_44 v1 v2 n) hk44 v3 x15 D
      · refine r_ldc (pc := 84) d_X12_number_84 cc_X12_146 ?_
        refine r_goto (pc := 86) 91 d_X12_number_86 (by decide) ?_
        refine r_pick [1, 2, 3, 4] (ls' := [(0, .ref 102), (1, .int v1), (2, .int v2), (3, .int v3)]) rfl ?_
        exact s_X12_number_91 hst h0 hd (fn_X12_number_44 v1 v2 n) hk44 v3 (100000 : Int32) D
theorem s_X12_number {X : zX} {Sh : zSh} {d : Nat} (hst : (zl X).stackTraces = false) (h0 : zSh0 Sh) (hd : 3 ≤ d) {v1 : Int32} {v2 : Int32} {D : zD} : Sd X m_X12_number d [.ref 102, .int v1, .int v2] (Sh, D) ((oI Sh) (fn_X12_number v1 v2 D)) := by
  obtain ⟨d, rfl⟩ : ∃ e, d = e + 1 := ⟨d - 1, by omega⟩
  replace hd : 2 ≤ d := by omega
  refine z_body ck_X12_number rfl (Nat.le_of_ble_eq_true rfl) rfl hst ?_
  rw [fn_X12_number]
  show Rn X m_X12_number (d + 1) 0 [(0, .ref 102), (1, .int v1), (2, .int v2)] [] (Sh, D) _
  refine r_aload_n (pc := 0) 0 d_X12_number_0 rfl rfl ?_
  refine q_gI (pc := 1) g_X12_129 (K_102 h0) rfl d_X12_number_1 ?_
  refine r_if_eq (f := (oI Sh)) (pc := 4) 9 d_X12_number_4 (by decide) (fun c1 => ?_) (fun c1 => ?_)
  · refine r_aload_n (pc := 9) 0 d_X12_number_9 rfl rfl ?_
    refine q_cV (f := (oI Sh)) (av := [.ref 102]) (st := []) (z_runV ck_X12_blanks rfl ml_X12_135 ci_X12_blanks cv_X12_blanks (K_102 h0) (ci := 12) rfl rfl (Nat.le_of_ble_eq_true rfl) d_X12_number_10) (s_X12_blanks hst h0 (by omega)) kp_I (fun D2 _ => ?_)
    refine r_aload_n (pc := 13) 0 d_X12_number_13 rfl rfl ?_
    refine q_gI (pc := 14) g_X12_122 (K_102 h0) rfl d_X12_number_14 ?_
    refine r_leti (f := (oI Sh)) (fun x3 => ?_)
    refine r_istore_n (pc := 17) (ls' := [(3, .int x3), (0, .ref 102), (1, .int v1), (2, .int v2)]) d_X12_number_17 rfl (Nat.le_of_ble_eq_true rfl) rfl ?_
    refine r_iconst (pc := 18) (0 : Int32) d_X12_number_18 rfl ?_
    refine r_istore (pc := 19) (ls' := [(4, .int (0 : Int32)), (3, .int x3), (0, .ref 102), (1, .int v1), (2, .int v2)]) d_X12_number_19 (Nat.le_of_ble_eq_true rfl) rfl ?_
    refine r_aload_n (pc := 21) 2 d_X12_number_21 rfl rfl ?_
    refine r_aload_n (pc := 22) 2 d_X12_number_22 rfl rfl ?_
    refine q_gI (pc := 23) g_X12_122 (K_102 h0) rfl d_X12_number_23 ?_
    refine q_cP (f := (oI Sh)) (av := [.ref 102, .int (gI D2 102 4)]) (st := []) (z_runV ck_X12_byteAt rfl ml_X12_125 ci_X12_byteAt cv_X12_byteAt (K_102 h0) (ci := 12) rfl rfl (Nat.le_of_ble_eq_true rfl) d_X12_number_26) (s_X12_byteAt hst h0 (by omega)) kp_I (fun x4 _ => ?_)
    refine q_cP (f := (oI Sh)) (av := [.int x4]) (st := []) (z_runS ck_X12_isDigit rfl ml_X12_138 cs_X12_isDigit rfl (Nat.le_of_ble_eq_true rfl) d_X12_number_29) (s_X12_isDigit hst h0 (by omega)) kp_I (fun x5 _ => ?_)
    refine r_if_ne (f := (oI Sh)) (pc := 32) 44 d_X12_number_32 (by decide) (fun c6 => ?_) (fun c6 => ?_)
    · refine r_pick [2, 3, 4, 1, 0] (ls' := [(0, .ref 102), (1, .int v1), (2, .int v2), (3, .int x3), (4, .int (0 : Int32))]) rfl ?_
      exact s_X12_number_44 hst h0 hd zFU  x3 (0 : Int32) D2
    · refine r_aload_n (pc := 35) 2 d_X12_number_35 rfl rfl ?_
      refine r_iconst (pc := 36) (1 : Int32) d_X12_number_36 rfl ?_
      refine r_aload_n (pc := 37) 2 d_X12_number_37 rfl rfl ?_
      refine q_gI (pc := 38) g_X12_122 (K_102 h0) rfl d_X12_number_38 ?_
      refine q_cV (f := (oI Sh)) (av := [.ref 102, .int (1 : Int32), .int (gI D2 102 4)]) (st := []) (z_runV ck_X12_wrong rfl ml_X12_142 ci_X12_wrong cv_X12_wrong (K_102 h0) (ci := 12) rfl rfl (Nat.le_of_ble_eq_true rfl) d_X12_number_41) (s_X12_wrong hst h0 (by omega)) kp_I (fun D18 _ => ?_)
      refine r_pick [2, 3, 4, 1, 0] (ls' := [(0, .ref 102), (1, .int v1), (2, .int v2), (3, .int x3), (4, .int (0 : Int32))]) rfl ?_
      exact s_X12_number_44 hst h0 hd zFU  x3 (0 : Int32) D18
  · refine r_iconst (pc := 7) (0 : Int32) d_X12_number_7 rfl ?_
    exact r_iret (pc := 8) rfl d_X12_number_8
/-! CoveredSignsModel.wordHere -/
theorem d_X12_wordHere_0 : decode (yB m_X12_wordHere) 0 = .ok (.aload_n 0, 1) := by decide +kernel
theorem d_X12_wordHere_1 : decode (yB m_X12_wordHere) 1 = .ok (.invokevirtual 135, 3) := by decide +kernel
theorem d_X12_wordHere_4 : decode (yB m_X12_wordHere) 4 = .ok (.iconst 0, 1) := by decide +kernel
theorem d_X12_wordHere_5 : decode (yB m_X12_wordHere) 5 = .ok (.istore_n 1, 1) := by decide +kernel
theorem d_X12_wordHere_6 : decode (yB m_X12_wordHere) 6 = .ok (.iconst 0, 1) := by decide +kernel
theorem d_X12_wordHere_7 : decode (yB m_X12_wordHere) 7 = .ok (.istore_n 2, 1) := by decide +kernel
theorem d_X12_wordHere_8 : decode (yB m_X12_wordHere) 8 = .ok (.aload_n 0, 1) := by decide +kernel
theorem d_X12_wordHere_9 : decode (yB m_X12_wordHere) 9 = .ok (.aload_n 0, 1) := by decide +kernel
theorem d_X12_wordHere_10 : decode (yB m_X12_wordHere) 10 = .ok (.getfield 122, 3) := by decide +kernel
theorem d_X12_wordHere_13 : decode (yB m_X12_wordHere) 13 = .ok (.iload_n 2, 1) := by decide +kernel
theorem d_X12_wordHere_14 : decode (yB m_X12_wordHere) 14 = .ok (.iadd, 1) := by decide +kernel
theorem d_X12_wordHere_15 : decode (yB m_X12_wordHere) 15 = .ok (.invokevirtual 125, 3) := by decide +kernel
theorem d_X12_wordHere_18 : decode (yB m_X12_wordHere) 18 = .ok (.invokestatic 151, 3) := by decide +kernel
theorem d_X12_wordHere_21 : decode (yB m_X12_wordHere) 21 = .ok (.ifCond .eq 40, 3) := by decide +kernel
theorem d_X12_wordHere_24 : decode (yB m_X12_wordHere) 24 = .ok (.iload_n 2, 1) := by decide +kernel
theorem d_X12_wordHere_25 : decode (yB m_X12_wordHere) 25 = .ok (.bipush 6, 2) := by decide +kernel
theorem d_X12_wordHere_27 : decode (yB m_X12_wordHere) 27 = .ok (.if_icmp .ge 26, 3) := by decide +kernel
theorem d_X12_wordHere_30 : decode (yB m_X12_wordHere) 30 = .ok (.bipush 27, 2) := by decide +kernel
theorem d_X12_wordHere_32 : decode (yB m_X12_wordHere) 32 = .ok (.iload_n 1, 1) := by decide +kernel
theorem d_X12_wordHere_33 : decode (yB m_X12_wordHere) 33 = .ok (.imul, 1) := by decide +kernel
theorem d_X12_wordHere_34 : decode (yB m_X12_wordHere) 34 = .ok (.aload_n 0, 1) := by decide +kernel
theorem d_X12_wordHere_35 : decode (yB m_X12_wordHere) 35 = .ok (.aload_n 0, 1) := by decide +kernel
theorem d_X12_wordHere_36 : decode (yB m_X12_wordHere) 36 = .ok (.getfield 122, 3) := by decide +kernel
theorem d_X12_wordHere_39 : decode (yB m_X12_wordHere) 39 = .ok (.iload_n 2, 1) := by decide +kernel
theorem d_X12_wordHere_40 : decode (yB m_X12_wordHere) 40 = .ok (.iadd, 1) := by decide +kernel
theorem d_X12_wordHere_41 : decode (yB m_X12_wordHere) 41 = .ok (.invokevirtual 125, 3) := by decide +kernel
theorem d_X12_wordHere_44 : decode (yB m_X12_wordHere) 44 = .ok (.iadd, 1) := by decide +kernel
theorem d_X12_wordHere_45 : decode (yB m_X12_wordHere) 45 = .ok (.bipush 97, 2) := by decide +kernel
theorem d_X12_wordHere_47 : decode (yB m_X12_wordHere) 47 = .ok (.isub, 1) := by decide +kernel
theorem d_X12_wordHere_48 : decode (yB m_X12_wordHere) 48 = .ok (.iconst 1, 1) := by decide +kernel
theorem d_X12_wordHere_49 : decode (yB m_X12_wordHere) 49 = .ok (.iadd, 1) := by decide +kernel
theorem d_X12_wordHere_50 : decode (yB m_X12_wordHere) 50 = .ok (.goto 4, 3) := by decide +kernel
theorem d_X12_wordHere_53 : decode (yB m_X12_wordHere) 53 = .ok (.iload_n 1, 1) := by decide +kernel
theorem d_X12_wordHere_54 : decode (yB m_X12_wordHere) 54 = .ok (.istore_n 1, 1) := by decide +kernel
theorem d_X12_wordHere_55 : decode (yB m_X12_wordHere) 55 = .ok (.iinc 2 1, 3) := by decide +kernel
theorem d_X12_wordHere_58 : decode (yB m_X12_wordHere) 58 = .ok (.goto (-50), 3) := by decide +kernel
theorem d_X12_wordHere_61 : decode (yB m_X12_wordHere) 61 = .ok (.iload_n 2, 1) := by decide +kernel
theorem d_X12_wordHere_62 : decode (yB m_X12_wordHere) 62 = .ok (.bipush 6, 2) := by decide +kernel
theorem d_X12_wordHere_64 : decode (yB m_X12_wordHere) 64 = .ok (.if_icmp .le 7, 3) := by decide +kernel
theorem d_X12_wordHere_67 : decode (yB m_X12_wordHere) 67 = .ok (.iconst (-1), 1) := by decide +kernel
theorem d_X12_wordHere_68 : decode (yB m_X12_wordHere) 68 = .ok (.goto 4, 3) := by decide +kernel
theorem d_X12_wordHere_71 : decode (yB m_X12_wordHere) 71 = .ok (.iload_n 1, 1) := by decide +kernel
theorem d_X12_wordHere_72 : decode (yB m_X12_wordHere) 72 = .ok (.ireturn, 1) := by decide +kernel
def fn_X12_wordHere_61  (v1 : Int32) (v2 : Int32) (D : zD) : Option (Int32 × zD) := (if v2 ≤ (6 : Int32) then ((some (v1, D))) else ((some ((-1 : Int32), D))))
def fn_X12_wordHere_8  : Nat → Int32 → Int32 → zD → Option (Int32 × zD)
  | 0, _, _, _ => none
  | n + 1, v1, v2, D => (fn_X12_byteAt ((gI D 102 4) + v2) D).bind fun x2 => (fn_X12_isSmall x2).bind fun x3 => (if x3 = 0 then ((fn_X12_wordHere_61 v1 v2 D)) else ((if (6 : Int32) ≤ v2 then (((fn_X12_wordHere_8  n) v1 (v2 + (1 : Int32)) D)) else ((fn_X12_byteAt ((gI D 102 4) + v2) D).bind fun x7 => zlet (((((27 : Int32) * v1) + x7) - (97 : Int32)) + (1 : Int32)) fun x8 => ((fn_X12_wordHere_8  n) x8 (v2 + (1 : Int32)) D)))))
def fn_X12_wordHere (D : zD) : Option (Int32 × zD) := (fn_X12_blanks D).bind fun D1 => (fn_X12_wordHere_8 zFU (0 : Int32) (0 : Int32) D1)
theorem s_X12_wordHere_61 {X : zX} {Sh : zSh} {d : Nat} (hst : (zl X).stackTraces = false) (h0 : zSh0 Sh) (hd : 2 ≤ d)  (v1 : Int32) (v2 : Int32) (D : zD)  : Rn X m_X12_wordHere (d + 1) 61 [(1, .int v1), (2, .int v2)] [] (Sh, D) ((oI Sh) (fn_X12_wordHere_61  v1 v2 D)) := by
  rw [fn_X12_wordHere_61]
  refine r_iload_n (pc := 61) 1 d_X12_wordHere_61 rfl rfl ?_
  refine r_bipush (pc := 62) (6 : Int32) d_X12_wordHere_62 rfl ?_
  refine r_icmp_le (f := (oI Sh)) (pc := 64) 71 d_X12_wordHere_64 (by decide) (fun c5 => ?_) (fun c5 => ?_)
  · refine r_iload_n (pc := 71) 0 d_X12_wordHere_71 rfl rfl ?_
    exact r_iret (pc := 72) rfl d_X12_wordHere_72
  · refine r_iconst (pc := 67) (-1 : Int32) d_X12_wordHere_67 rfl ?_
    refine r_goto (pc := 68) 72 d_X12_wordHere_68 (by decide) ?_
    exact r_iret (pc := 72) rfl d_X12_wordHere_72
theorem s_X12_wordHere_8 {X : zX} {Sh : zSh} {d : Nat} (hst : (zl X).stackTraces = false) (h0 : zSh0 Sh) (hd : 2 ≤ d)  : ∀ (n : Nat) (v1 : Int32) (v2 : Int32) (D : zD) , Rn X m_X12_wordHere (d + 1) 8 [(0, .ref 102), (1, .int v1), (2, .int v2)] [] (Sh, D) ((oI Sh) (fn_X12_wordHere_8  n v1 v2 D)) := by
  intro n
  induction n with
  | zero => intro v1 v2 D; exact Rn_none rfl
  | succ n hk8 =>
    intro v1 v2 D
    rw [fn_X12_wordHere_8]
    refine r_aload_n (pc := 8) 0 d_X12_wordHere_8 rfl rfl ?_
    refine r_aload_n (pc := 9) 0 d_X12_wordHere_9 rfl rfl ?_
    refine q_gI (pc := 10) g_X12_122 (K_102 h0) rfl d_X12_wordHere_10 ?_
    refine r_iload_n (pc := 13) 2 d_X12_wordHere_13 rfl rfl ?_
    refine r_iadd (pc := 14) d_X12_wordHere_14 ?_
    refine q_cP (f := (oI Sh)) (av := [.ref 102, .int ((gI D 102 4) + v2)]) (st := []) (z_runV ck_X12_byteAt rfl ml_X12_125 ci_X12_byteAt cv_X12_byteAt (K_102 h0) (ci := 12) rfl rfl (Nat.le_of_ble_eq_true rfl) d_X12_wordHere_15) (s_X12_byteAt hst h0 (by omega)) kp_I (fun x2 _ => ?_)
    refine q_cP (f := (oI Sh)) (av := [.int x2]) (st := []) (z_runS ck_X12_isSmall rfl ml_X12_151 cs_X12_isSmall rfl (Nat.le_of_ble_eq_true rfl) d_X12_wordHere_18) (s_X12_isSmall hst h0 (by omega)) kp_I (fun x3 _ => ?_)
    refine r_if_eq (f := (oI Sh)) (pc := 21) 61 d_X12_wordHere_21 (by decide) (fun c4 => ?_) (fun c4 => ?_)
    · refine r_pick [1, 2] (ls' := [(1, .int v1), (2, .int v2)]) rfl ?_
      exact s_X12_wordHere_61 hst h0 hd v1 v2 D
    · refine r_iload_n (pc := 24) 2 d_X12_wordHere_24 rfl rfl ?_
      refine r_bipush (pc := 25) (6 : Int32) d_X12_wordHere_25 rfl ?_
      refine r_icmp_ge (f := (oI Sh)) (pc := 27) 53 d_X12_wordHere_27 (by decide) (fun c6 => ?_) (fun c6 => ?_)
      · refine r_iload_n (pc := 53) 1 d_X12_wordHere_53 rfl rfl ?_
        refine r_istore_n (pc := 54) (ls' := [(1, .int v1), (0, .ref 102), (2, .int v2)]) d_X12_wordHere_54 rfl (Nat.le_of_ble_eq_true rfl) rfl ?_
        refine r_iinc (pc := 55) ((v2 + (1 : Int32))) 2 (ls' := [(2, .int (v2 + (1 : Int32))), (1, .int v1), (0, .ref 102)]) d_X12_wordHere_55 rfl rfl (Nat.le_of_ble_eq_true rfl) rfl ?_
        refine r_goto (pc := 58) 8 d_X12_wordHere_58 (by decide) ?_
        refine r_pick [2, 1, 0] (ls' := [(0, .ref 102), (1, .int v1), (2, .int (v2 + (1 : Int32)))]) rfl ?_
        exact hk8 v1 (v2 + (1 : Int32)) D 
      · refine r_bipush (pc := 30) (27 : Int32) d_X12_wordHere_30 rfl ?_
        refine r_iload_n (pc := 32) 1 d_X12_wordHere_32 rfl rfl ?_
        refine r_imul (pc := 33) d_X12_wordHere_33 ?_
        refine r_aload_n (pc := 34) 0 d_X12_wordHere_34 rfl rfl ?_
        refine r_aload_n (pc := 35) 0 d_X12_wordHere_35 rfl rfl ?_
        refine q_gI (pc := 36) g_X12_122 (K_102 h0) rfl d_X12_wordHere_36 ?_
        refine r_iload_n (pc := 39) 2 d_X12_wordHere_39 rfl rfl ?_
        refine r_iadd (pc := 40) d_X12_wordHere_40 ?_
        refine q_cP (f := (oI Sh)) (av := [.ref 102, .int ((gI D 102 4) + v2)]) (st := [.int ((27 : Int32) * v1)]) (z_runV ck_X12_byteAt rfl ml_X12_125 ci_X12_byteAt cv_X12_byteAt (K_102 h0) (ci := 12) rfl rfl (Nat.le_of_ble_eq_true rfl) d_X12_wordHere_41) (s_X12_byteAt hst h0 (by omega)) kp_I (fun x7 _ => ?_)
        refine r_iadd (pc := 44) d_X12_wordHere_44 ?_
        refine r_bipush (pc := 45) (97 : Int32) d_X12_wordHere_45 rfl ?_
        refine r_isub (pc := 47) d_X12_wordHere_47 ?_
        refine r_iconst (pc := 48) (1 : Int32) d_X12_wordHere_48 rfl ?_
        refine r_iadd (pc := 49) d_X12_wordHere_49 ?_
        refine r_goto (pc := 50) 54 d_X12_wordHere_50 (by decide) ?_
        refine r_leti (f := (oI Sh)) (fun x8 => ?_)
        refine r_istore_n (pc := 54) (ls' := [(1, .int x8), (0, .ref 102), (2, .int v2)]) d_X12_wordHere_54 rfl (Nat.le_of_ble_eq_true rfl) rfl ?_
        refine r_iinc (pc := 55) ((v2 + (1 : Int32))) 2 (ls' := [(2, .int (v2 + (1 : Int32))), (1, .int x8), (0, .ref 102)]) d_X12_wordHere_55 rfl rfl (Nat.le_of_ble_eq_true rfl) rfl ?_
        refine r_goto (pc := 58) 8 d_X12_wordHere_58 (by decide) ?_
        refine r_pick [2, 1, 0] (ls' := [(0, .ref 102), (1, .int x8), (2, .int (v2 + (1 : Int32)))]) rfl ?_
        exact hk8 x8 (v2 + (1 : Int32)) D 
theorem s_X12_wordHere {X : zX} {Sh : zSh} {d : Nat} (hst : (zl X).stackTraces = false) (h0 : zSh0 Sh) (hd : 3 ≤ d)  {D : zD} : Sd X m_X12_wordHere d [.ref 102] (Sh, D) ((oI Sh) (fn_X12_wordHere D)) := by
  obtain ⟨d, rfl⟩ : ∃ e, d = e + 1 := ⟨d - 1, by omega⟩
  replace hd : 2 ≤ d := by omega
  refine z_body ck_X12_wordHere rfl (Nat.le_of_ble_eq_true rfl) rfl hst ?_
  rw [fn_X12_wordHere]
  show Rn X m_X12_wordHere (d + 1) 0 [(0, .ref 102)] [] (Sh, D) _
  refine r_aload_n (pc := 0) 0 d_X12_wordHere_0 rfl rfl ?_
  refine q_cV (f := (oI Sh)) (av := [.ref 102]) (st := []) (z_runV ck_X12_blanks rfl ml_X12_135 ci_X12_blanks cv_X12_blanks (K_102 h0) (ci := 12) rfl rfl (Nat.le_of_ble_eq_true rfl) d_X12_wordHere_1) (s_X12_blanks hst h0 (by omega)) kp_I (fun D1 _ => ?_)
  refine r_iconst (pc := 4) (0 : Int32) d_X12_wordHere_4 rfl ?_
  refine r_istore_n (pc := 5) (ls' := [(1, .int (0 : Int32)), (0, .ref 102)]) d_X12_wordHere_5 rfl (Nat.le_of_ble_eq_true rfl) rfl ?_
  refine r_iconst (pc := 6) (0 : Int32) d_X12_wordHere_6 rfl ?_
  refine r_istore_n (pc := 7) (ls' := [(2, .int (0 : Int32)), (1, .int (0 : Int32)), (0, .ref 102)]) d_X12_wordHere_7 rfl (Nat.le_of_ble_eq_true rfl) rfl ?_
  refine r_pick [2, 1, 0] (ls' := [(0, .ref 102), (1, .int (0 : Int32)), (2, .int (0 : Int32))]) rfl ?_
  exact s_X12_wordHere_8 hst h0 hd zFU  (0 : Int32) (0 : Int32) D1
/-! CoveredSignsModel.six -/
theorem d_X12_six_0 : decode (yB m_X12_six) 0 = .ok (.bipush 27, 2) := by decide +kernel
theorem d_X12_six_2 : decode (yB m_X12_six) 2 = .ok (.iload_n 0, 1) := by decide +kernel
theorem d_X12_six_3 : decode (yB m_X12_six) 3 = .ok (.imul, 1) := by decide +kernel
theorem d_X12_six_4 : decode (yB m_X12_six) 4 = .ok (.iload_n 1, 1) := by decide +kernel
theorem d_X12_six_5 : decode (yB m_X12_six) 5 = .ok (.iadd, 1) := by decide +kernel
theorem d_X12_six_6 : decode (yB m_X12_six) 6 = .ok (.istore 6, 2) := by decide +kernel
theorem d_X12_six_8 : decode (yB m_X12_six) 8 = .ok (.iload_n 2, 1) := by decide +kernel
theorem d_X12_six_9 : decode (yB m_X12_six) 9 = .ok (.ifCond .ne 8, 3) := by decide +kernel
theorem d_X12_six_12 : decode (yB m_X12_six) 12 = .ok (.iload 6, 2) := by decide +kernel
theorem d_X12_six_14 : decode (yB m_X12_six) 14 = .ok (.goto 10, 3) := by decide +kernel
theorem d_X12_six_17 : decode (yB m_X12_six) 17 = .ok (.bipush 27, 2) := by decide +kernel
theorem d_X12_six_19 : decode (yB m_X12_six) 19 = .ok (.iload 6, 2) := by decide +kernel
theorem d_X12_six_21 : decode (yB m_X12_six) 21 = .ok (.imul, 1) := by decide +kernel
theorem d_X12_six_22 : decode (yB m_X12_six) 22 = .ok (.iload_n 2, 1) := by decide +kernel
theorem d_X12_six_23 : decode (yB m_X12_six) 23 = .ok (.iadd, 1) := by decide +kernel
theorem d_X12_six_24 : decode (yB m_X12_six) 24 = .ok (.istore 6, 2) := by decide +kernel
theorem d_X12_six_26 : decode (yB m_X12_six) 26 = .ok (.iload_n 3, 1) := by decide +kernel
theorem d_X12_six_27 : decode (yB m_X12_six) 27 = .ok (.ifCond .ne 8, 3) := by decide +kernel
theorem d_X12_six_30 : decode (yB m_X12_six) 30 = .ok (.iload 6, 2) := by decide +kernel
theorem d_X12_six_32 : decode (yB m_X12_six) 32 = .ok (.goto 10, 3) := by decide +kernel
theorem d_X12_six_35 : decode (yB m_X12_six) 35 = .ok (.bipush 27, 2) := by decide +kernel
theorem d_X12_six_37 : decode (yB m_X12_six) 37 = .ok (.iload 6, 2) := by decide +kernel
theorem d_X12_six_39 : decode (yB m_X12_six) 39 = .ok (.imul, 1) := by decide +kernel
theorem d_X12_six_40 : decode (yB m_X12_six) 40 = .ok (.iload_n 3, 1) := by decide +kernel
theorem d_X12_six_41 : decode (yB m_X12_six) 41 = .ok (.iadd, 1) := by decide +kernel
theorem d_X12_six_42 : decode (yB m_X12_six) 42 = .ok (.istore 6, 2) := by decide +kernel
theorem d_X12_six_44 : decode (yB m_X12_six) 44 = .ok (.iload 4, 2) := by decide +kernel
theorem d_X12_six_46 : decode (yB m_X12_six) 46 = .ok (.ifCond .ne 8, 3) := by decide +kernel
theorem d_X12_six_49 : decode (yB m_X12_six) 49 = .ok (.iload 6, 2) := by decide +kernel
theorem d_X12_six_51 : decode (yB m_X12_six) 51 = .ok (.goto 11, 3) := by decide +kernel
theorem d_X12_six_54 : decode (yB m_X12_six) 54 = .ok (.bipush 27, 2) := by decide +kernel
theorem d_X12_six_56 : decode (yB m_X12_six) 56 = .ok (.iload 6, 2) := by decide +kernel
theorem d_X12_six_58 : decode (yB m_X12_six) 58 = .ok (.imul, 1) := by decide +kernel
theorem d_X12_six_59 : decode (yB m_X12_six) 59 = .ok (.iload 4, 2) := by decide +kernel
theorem d_X12_six_61 : decode (yB m_X12_six) 61 = .ok (.iadd, 1) := by decide +kernel
theorem d_X12_six_62 : decode (yB m_X12_six) 62 = .ok (.istore 6, 2) := by decide +kernel
theorem d_X12_six_64 : decode (yB m_X12_six) 64 = .ok (.iload 5, 2) := by decide +kernel
theorem d_X12_six_66 : decode (yB m_X12_six) 66 = .ok (.ifCond .ne 8, 3) := by decide +kernel
theorem d_X12_six_69 : decode (yB m_X12_six) 69 = .ok (.iload 6, 2) := by decide +kernel
theorem d_X12_six_71 : decode (yB m_X12_six) 71 = .ok (.goto 11, 3) := by decide +kernel
theorem d_X12_six_74 : decode (yB m_X12_six) 74 = .ok (.bipush 27, 2) := by decide +kernel
theorem d_X12_six_76 : decode (yB m_X12_six) 76 = .ok (.iload 6, 2) := by decide +kernel
theorem d_X12_six_78 : decode (yB m_X12_six) 78 = .ok (.imul, 1) := by decide +kernel
theorem d_X12_six_79 : decode (yB m_X12_six) 79 = .ok (.iload 5, 2) := by decide +kernel
theorem d_X12_six_81 : decode (yB m_X12_six) 81 = .ok (.iadd, 1) := by decide +kernel
theorem d_X12_six_82 : decode (yB m_X12_six) 82 = .ok (.ireturn, 1) := by decide +kernel
def fn_X12_six_62 (v0 : Int32) (v1 : Int32) (v2 : Int32) (v3 : Int32) (v4 : Int32) (v5 : Int32) (w0 : Int32) : Option Int32 := (if v5 = 0 then ((some w0)) else ((some (((27 : Int32) * w0) + v5))))
def fn_X12_six_42 (v0 : Int32) (v1 : Int32) (v2 : Int32) (v3 : Int32) (v4 : Int32) (v5 : Int32) (w0 : Int32) : Option Int32 := (if v4 = 0 then ((fn_X12_six_62 v0 v1 v2 v3 v4 v5 w0)) else ((fn_X12_six_62 v0 v1 v2 v3 v4 v5 (((27 : Int32) * w0) + v4))))
def fn_X12_six_24 (v0 : Int32) (v1 : Int32) (v2 : Int32) (v3 : Int32) (v4 : Int32) (v5 : Int32) (w0 : Int32) : Option Int32 := (if v3 = 0 then ((fn_X12_six_42 v0 v1 v2 v3 v4 v5 w0)) else ((fn_X12_six_42 v0 v1 v2 v3 v4 v5 (((27 : Int32) * w0) + v3))))
def fn_X12_six (v0 : Int32) (v1 : Int32) (v2 : Int32) (v3 : Int32) (v4 : Int32) (v5 : Int32) : Option Int32 := zlet (((27 : Int32) * v0) + v1) fun x1 => (if v2 = 0 then ((fn_X12_six_24 v0 v1 v2 v3 v4 v5 x1)) else ((fn_X12_six_24 v0 v1 v2 v3 v4 v5 (((27 : Int32) * x1) + v2))))
theorem s_X12_six_62 {X : zX} {Sh : zSh} {d : Nat} (hst : (zl X).stackTraces = false) (h0 : zSh0 Sh) (hd : 0 ≤ d) {v0 : Int32} {v1 : Int32} {v2 : Int32} {v3 : Int32} {v4 : Int32} {v5 : Int32} (D : zD) (w0 : Int32)  : Rn X m_X12_six (d + 1) 62 [(5, .int v5)] [.int w0] (Sh, D) ((oP Sh D) (fn_X12_six_62 v0 v1 v2 v3 v4 v5 w0)) := by
  rw [fn_X12_six_62]
  refine r_istore (pc := 62) (ls' := [(6, .int w0), (5, .int v5)]) d_X12_six_62 (Nat.le_of_ble_eq_true rfl) rfl ?_
  refine r_iload (pc := 64) 1 d_X12_six_64 rfl ?_
  refine r_if_ne (f := (oP Sh D)) (pc := 66) 74 d_X12_six_66 (by decide) (fun c5 => ?_) (fun c5 => ?_)
  · refine r_bipush (pc := 74) (27 : Int32) d_X12_six_74 rfl ?_
    refine r_iload (pc := 76) 0 d_X12_six_76 rfl ?_
    refine r_imul (pc := 78) d_X12_six_78 ?_
    refine r_iload (pc := 79) 1 d_X12_six_79 rfl ?_
    refine r_iadd (pc := 81) d_X12_six_81 ?_
    exact r_iret (pc := 82) rfl d_X12_six_82
  · refine r_iload (pc := 69) 0 d_X12_six_69 rfl ?_
    refine r_goto (pc := 71) 82 d_X12_six_71 (by decide) ?_
    exact r_iret (pc := 82) rfl d_X12_six_82
theorem s_X12_six_42 {X : zX} {Sh : zSh} {d : Nat} (hst : (zl X).stackTraces = false) (h0 : zSh0 Sh) (hd : 0 ≤ d) {v0 : Int32} {v1 : Int32} {v2 : Int32} {v3 : Int32} {v4 : Int32} {v5 : Int32} (D : zD) (w0 : Int32)  : Rn X m_X12_six (d + 1) 42 [(4, .int v4), (5, .int v5)] [.int w0] (Sh, D) ((oP Sh D) (fn_X12_six_42 v0 v1 v2 v3 v4 v5 w0)) := by
  rw [fn_X12_six_42]
  refine r_istore (pc := 42) (ls' := [(6, .int w0), (4, .int v4), (5, .int v5)]) d_X12_six_42 (Nat.le_of_ble_eq_true rfl) rfl ?_
  refine r_iload (pc := 44) 1 d_X12_six_44 rfl ?_
  refine r_if_ne (f := (oP Sh D)) (pc := 46) 54 d_X12_six_46 (by decide) (fun c4 => ?_) (fun c4 => ?_)
  · refine r_bipush (pc := 54) (27 : Int32) d_X12_six_54 rfl ?_
    refine r_iload (pc := 56) 0 d_X12_six_56 rfl ?_
    refine r_imul (pc := 58) d_X12_six_58 ?_
    refine r_iload (pc := 59) 1 d_X12_six_59 rfl ?_
    refine r_iadd (pc := 61) d_X12_six_61 ?_
    refine r_pick [2] (ls' := [(5, .int v5)]) rfl ?_
    exact s_X12_six_62 hst h0 hd D (((27 : Int32) * w0) + v4)
  · refine r_iload (pc := 49) 0 d_X12_six_49 rfl ?_
    refine r_goto (pc := 51) 62 d_X12_six_51 (by decide) ?_
    refine r_pick [2] (ls' := [(5, .int v5)]) rfl ?_
    exact s_X12_six_62 hst h0 hd D w0
theorem s_X12_six_24 {X : zX} {Sh : zSh} {d : Nat} (hst : (zl X).stackTraces = false) (h0 : zSh0 Sh) (hd : 0 ≤ d) {v0 : Int32} {v1 : Int32} {v2 : Int32} {v3 : Int32} {v4 : Int32} {v5 : Int32} (D : zD) (w0 : Int32)  : Rn X m_X12_six (d + 1) 24 [(3, .int v3), (4, .int v4), (5, .int v5)] [.int w0] (Sh, D) ((oP Sh D) (fn_X12_six_24 v0 v1 v2 v3 v4 v5 w0)) := by
  rw [fn_X12_six_24]
  refine r_istore (pc := 24) (ls' := [(6, .int w0), (3, .int v3), (4, .int v4), (5, .int v5)]) d_X12_six_24 (Nat.le_of_ble_eq_true rfl) rfl ?_
  refine r_iload_n (pc := 26) 1 d_X12_six_26 rfl rfl ?_
  refine r_if_ne (f := (oP Sh D)) (pc := 27) 35 d_X12_six_27 (by decide) (fun c3 => ?_) (fun c3 => ?_)
  · refine r_bipush (pc := 35) (27 : Int32) d_X12_six_35 rfl ?_
    refine r_iload (pc := 37) 0 d_X12_six_37 rfl ?_
    refine r_imul (pc := 39) d_X12_six_39 ?_
    refine r_iload_n (pc := 40) 1 d_X12_six_40 rfl rfl ?_
    refine r_iadd (pc := 41) d_X12_six_41 ?_
    refine r_pick [2, 3] (ls' := [(4, .int v4), (5, .int v5)]) rfl ?_
    exact s_X12_six_42 hst h0 hd D (((27 : Int32) * w0) + v3)
  · refine r_iload (pc := 30) 0 d_X12_six_30 rfl ?_
    refine r_goto (pc := 32) 42 d_X12_six_32 (by decide) ?_
    refine r_pick [2, 3] (ls' := [(4, .int v4), (5, .int v5)]) rfl ?_
    exact s_X12_six_42 hst h0 hd D w0
theorem s_X12_six {X : zX} {Sh : zSh} {d : Nat} (hst : (zl X).stackTraces = false) (h0 : zSh0 Sh) (hd : 1 ≤ d) {v0 : Int32} {v1 : Int32} {v2 : Int32} {v3 : Int32} {v4 : Int32} {v5 : Int32} {D : zD} : Sd X m_X12_six d [.int v0, .int v1, .int v2, .int v3, .int v4, .int v5] (Sh, D) ((oP Sh D) (fn_X12_six v0 v1 v2 v3 v4 v5)) := by
  obtain ⟨d, rfl⟩ : ∃ e, d = e + 1 := ⟨d - 1, by omega⟩
  replace hd : 0 ≤ d := by omega
  refine z_body ck_X12_six rfl (Nat.le_of_ble_eq_true rfl) rfl hst ?_
  rw [fn_X12_six]
  show Rn X m_X12_six (d + 1) 0 [(0, .int v0), (1, .int v1), (2, .int v2), (3, .int v3), (4, .int v4), (5, .int v5)] [] (Sh, D) _
  refine r_bipush (pc := 0) (27 : Int32) d_X12_six_0 rfl ?_
  refine r_iload_n (pc := 2) 0 d_X12_six_2 rfl rfl ?_
  refine r_imul (pc := 3) d_X12_six_3 ?_
  refine r_iload_n (pc := 4) 1 d_X12_six_4 rfl rfl ?_
  refine r_iadd (pc := 5) d_X12_six_5 ?_
  refine r_leti (f := (oP Sh D)) (fun x1 => ?_)
  refine r_istore (pc := 6) (ls' := [(6, .int x1), (0, .int v0), (1, .int v1), (2, .int v2), (3, .int v3), (4, .int v4), (5, .int v5)]) d_X12_six_6 (Nat.le_of_ble_eq_true rfl) rfl ?_
  refine r_iload_n (pc := 8) 3 d_X12_six_8 rfl rfl ?_
  refine r_if_ne (f := (oP Sh D)) (pc := 9) 17 d_X12_six_9 (by decide) (fun c2 => ?_) (fun c2 => ?_)
  · refine r_bipush (pc := 17) (27 : Int32) d_X12_six_17 rfl ?_
    refine r_iload (pc := 19) 0 d_X12_six_19 rfl ?_
    refine r_imul (pc := 21) d_X12_six_21 ?_
    refine r_iload_n (pc := 22) 3 d_X12_six_22 rfl rfl ?_
    refine r_iadd (pc := 23) d_X12_six_23 ?_
    refine r_pick [4, 5, 6] (ls' := [(3, .int v3), (4, .int v4), (5, .int v5)]) rfl ?_
    exact s_X12_six_24 hst h0 hd D (((27 : Int32) * x1) + v2)
  · refine r_iload (pc := 12) 0 d_X12_six_12 rfl ?_
    refine r_goto (pc := 14) 24 d_X12_six_14 (by decide) ?_
    refine r_pick [4, 5, 6] (ls' := [(3, .int v3), (4, .int v4), (5, .int v5)]) rfl ?_
    exact s_X12_six_24 hst h0 hd D x1
/-! CoveredSignsModel.isWord -/
theorem d_X12_isWord_0 : decode (yB m_X12_isWord) 0 = .ok (.aload_n 0, 1) := by decide +kernel
theorem d_X12_isWord_1 : decode (yB m_X12_isWord) 1 = .ok (.getfield 129, 3) := by decide +kernel
theorem d_X12_isWord_4 : decode (yB m_X12_isWord) 4 = .ok (.ifCond .ne 26, 3) := by decide +kernel
theorem d_X12_isWord_7 : decode (yB m_X12_isWord) 7 = .ok (.aload_n 0, 1) := by decide +kernel
theorem d_X12_isWord_8 : decode (yB m_X12_isWord) 8 = .ok (.invokevirtual 154, 3) := by decide +kernel
theorem d_X12_isWord_11 : decode (yB m_X12_isWord) 11 = .ok (.iload_n 1, 1) := by decide +kernel
theorem d_X12_isWord_12 : decode (yB m_X12_isWord) 12 = .ok (.iload_n 2, 1) := by decide +kernel
theorem d_X12_isWord_13 : decode (yB m_X12_isWord) 13 = .ok (.iload_n 3, 1) := by decide +kernel
theorem d_X12_isWord_14 : decode (yB m_X12_isWord) 14 = .ok (.iload 4, 2) := by decide +kernel
theorem d_X12_isWord_16 : decode (yB m_X12_isWord) 16 = .ok (.iload 5, 2) := by decide +kernel
theorem d_X12_isWord_18 : decode (yB m_X12_isWord) 18 = .ok (.iload 6, 2) := by decide +kernel
theorem d_X12_isWord_20 : decode (yB m_X12_isWord) 20 = .ok (.invokestatic 158, 3) := by decide +kernel
theorem d_X12_isWord_23 : decode (yB m_X12_isWord) 23 = .ok (.if_icmp .ne 7, 3) := by decide +kernel
theorem d_X12_isWord_26 : decode (yB m_X12_isWord) 26 = .ok (.iconst 1, 1) := by decide +kernel
theorem d_X12_isWord_27 : decode (yB m_X12_isWord) 27 = .ok (.goto 4, 3) := by decide +kernel
theorem d_X12_isWord_30 : decode (yB m_X12_isWord) 30 = .ok (.iconst 0, 1) := by decide +kernel
theorem d_X12_isWord_31 : decode (yB m_X12_isWord) 31 = .ok (.ireturn, 1) := by decide +kernel
def fn_X12_isWord (v1 : Int32) (v2 : Int32) (v3 : Int32) (v4 : Int32) (v5 : Int32) (v6 : Int32) (D : zD) : Option (Int32 × zD) := (if (gI D 102 5) = 0 then ((fn_X12_wordHere D).bind fun q2 => (fn_X12_six v1 v2 v3 v4 v5 v6).bind fun x3 => (if q2.1 = x3 then ((some ((1 : Int32), q2.2))) else ((some ((0 : Int32), q2.2))))) else ((some ((0 : Int32), D))))
theorem s_X12_isWord {X : zX} {Sh : zSh} {d : Nat} (hst : (zl X).stackTraces = false) (h0 : zSh0 Sh) (hd : 4 ≤ d) {v1 : Int32} {v2 : Int32} {v3 : Int32} {v4 : Int32} {v5 : Int32} {v6 : Int32} {D : zD} : Sd X m_X12_isWord d [.ref 102, .int v1, .int v2, .int v3, .int v4, .int v5, .int v6] (Sh, D) ((oI Sh) (fn_X12_isWord v1 v2 v3 v4 v5 v6 D)) := by
  obtain ⟨d, rfl⟩ : ∃ e, d = e + 1 := ⟨d - 1, by omega⟩
  replace hd : 3 ≤ d := by omega
  refine z_body ck_X12_isWord rfl (Nat.le_of_ble_eq_true rfl) rfl hst ?_
  rw [fn_X12_isWord]
  show Rn X m_X12_isWord (d + 1) 0 [(0, .ref 102), (1, .int v1), (2, .int v2), (3, .int v3), (4, .int v4), (5, .int v5), (6, .int v6)] [] (Sh, D) _
  refine r_aload_n (pc := 0) 0 d_X12_isWord_0 rfl rfl ?_
  refine q_gI (pc := 1) g_X12_129 (K_102 h0) rfl d_X12_isWord_1 ?_
  refine r_if_ne (f := (oI Sh)) (pc := 4) 30 d_X12_isWord_4 (by decide) (fun c1 => ?_) (fun c1 => ?_)
  · refine r_iconst (pc := 30) (0 : Int32) d_X12_isWord_30 rfl ?_
    exact r_zret (pc := 31) rfl (by decide) d_X12_isWord_31
  · refine r_aload_n (pc := 7) 0 d_X12_isWord_7 rfl rfl ?_
    refine q_cI (f := (oI Sh)) (av := [.ref 102]) (st := []) (z_runV ck_X12_wordHere rfl ml_X12_154 ci_X12_wordHere cv_X12_wordHere (K_102 h0) (ci := 12) rfl rfl (Nat.le_of_ble_eq_true rfl) d_X12_isWord_8) (s_X12_wordHere hst h0 (by omega)) kp_I (fun q2 _ => ?_)
    refine r_iload_n (pc := 11) 1 d_X12_isWord_11 rfl rfl ?_
    refine r_iload_n (pc := 12) 2 d_X12_isWord_12 rfl rfl ?_
    refine r_iload_n (pc := 13) 3 d_X12_isWord_13 rfl rfl ?_
    refine r_iload (pc := 14) 4 d_X12_isWord_14 rfl ?_
    refine r_iload (pc := 16) 5 d_X12_isWord_16 rfl ?_
    refine r_iload (pc := 18) 6 d_X12_isWord_18 rfl ?_
    refine q_cP (f := (oI Sh)) (av := [.int v1, .int v2, .int v3, .int v4, .int v5, .int v6]) (st := [.int q2.1]) (z_runS ck_X12_six rfl ml_X12_158 cs_X12_six rfl (Nat.le_of_ble_eq_true rfl) d_X12_isWord_20) (s_X12_six hst h0 (by omega)) kp_I (fun x3 _ => ?_)
    refine r_icmp_ne (f := (oI Sh)) (pc := 23) 30 d_X12_isWord_23 (by decide) (fun c4 => ?_) (fun c4 => ?_)
    · refine r_iconst (pc := 30) (0 : Int32) d_X12_isWord_30 rfl ?_
      exact r_zret (pc := 31) rfl (by decide) d_X12_isWord_31
    · refine r_iconst (pc := 26) (1 : Int32) d_X12_isWord_26 rfl ?_
      refine r_goto (pc := 27) 31 d_X12_isWord_27 (by decide) ?_
      exact r_zret (pc := 31) rfl (by decide) d_X12_isWord_31
/-! CoveredSignsModel.skipWord -/
theorem d_X12_skipWord_0 : decode (yB m_X12_skipWord) 0 = .ok (.aload_n 0, 1) := by decide +kernel
theorem d_X12_skipWord_1 : decode (yB m_X12_skipWord) 1 = .ok (.aload_n 0, 1) := by decide +kernel
theorem d_X12_skipWord_2 : decode (yB m_X12_skipWord) 2 = .ok (.getfield 122, 3) := by decide +kernel
theorem d_X12_skipWord_5 : decode (yB m_X12_skipWord) 5 = .ok (.invokevirtual 125, 3) := by decide +kernel
theorem d_X12_skipWord_8 : decode (yB m_X12_skipWord) 8 = .ok (.invokestatic 151, 3) := by decide +kernel
theorem d_X12_skipWord_11 : decode (yB m_X12_skipWord) 11 = .ok (.ifCond .eq 16, 3) := by decide +kernel
theorem d_X12_skipWord_14 : decode (yB m_X12_skipWord) 14 = .ok (.aload_n 0, 1) := by decide +kernel
theorem d_X12_skipWord_15 : decode (yB m_X12_skipWord) 15 = .ok (.dup, 1) := by decide +kernel
theorem d_X12_skipWord_16 : decode (yB m_X12_skipWord) 16 = .ok (.getfield 122, 3) := by decide +kernel
theorem d_X12_skipWord_19 : decode (yB m_X12_skipWord) 19 = .ok (.iconst 1, 1) := by decide +kernel
theorem d_X12_skipWord_20 : decode (yB m_X12_skipWord) 20 = .ok (.iadd, 1) := by decide +kernel
theorem d_X12_skipWord_21 : decode (yB m_X12_skipWord) 21 = .ok (.putfield 122, 3) := by decide +kernel
theorem d_X12_skipWord_24 : decode (yB m_X12_skipWord) 24 = .ok (.goto (-24), 3) := by decide +kernel
theorem d_X12_skipWord_27 : decode (yB m_X12_skipWord) 27 = .ok (.return_, 1) := by decide +kernel
def fn_X12_skipWord_0  : Nat → zD → Option zD
  | 0, _ => none
  | n + 1, D => (fn_X12_byteAt (gI D 102 4) D).bind fun x1 => (fn_X12_isSmall x1).bind fun x2 => (if x2 = 0 then ((some D)) else (zlet (sI D 102 4 ((gI D 102 4) + (1 : Int32))) fun D4 => ((fn_X12_skipWord_0  n) D4)))
def fn_X12_skipWord (D : zD) : Option zD := (fn_X12_skipWord_0 zFU D)
theorem s_X12_skipWord_0 {X : zX} {Sh : zSh} {d : Nat} (hst : (zl X).stackTraces = false) (h0 : zSh0 Sh) (hd : 1 ≤ d)  : ∀ (n : Nat)  (D : zD) , Rn X m_X12_skipWord (d + 1) 0 [(0, .ref 102)] [] (Sh, D) ((oV Sh) (fn_X12_skipWord_0  n D)) := by
  intro n
  induction n with
  | zero => intro D; exact Rn_none rfl
  | succ n hk0 =>
    intro D
    rw [fn_X12_skipWord_0]
    refine r_aload_n (pc := 0) 0 d_X12_skipWord_0 rfl rfl ?_
    refine r_aload_n (pc := 1) 0 d_X12_skipWord_1 rfl rfl ?_
    refine q_gI (pc := 2) g_X12_122 (K_102 h0) rfl d_X12_skipWord_2 ?_
    refine q_cP (f := (oV Sh)) (av := [.ref 102, .int (gI D 102 4)]) (st := []) (z_runV ck_X12_byteAt rfl ml_X12_125 ci_X12_byteAt cv_X12_byteAt (K_102 h0) (ci := 12) rfl rfl (Nat.le_of_ble_eq_true rfl) d_X12_skipWord_5) (s_X12_byteAt hst h0 (by omega)) kp_V (fun x1 _ => ?_)
    refine q_cP (f := (oV Sh)) (av := [.int x1]) (st := []) (z_runS ck_X12_isSmall rfl ml_X12_151 cs_X12_isSmall rfl (Nat.le_of_ble_eq_true rfl) d_X12_skipWord_8) (s_X12_isSmall hst h0 (by omega)) kp_V (fun x2 _ => ?_)
    refine r_if_eq (f := (oV Sh)) (pc := 11) 27 d_X12_skipWord_11 (by decide) (fun c3 => ?_) (fun c3 => ?_)
    · exact r_vret (pc := 27) rfl d_X12_skipWord_27
    · refine r_aload_n (pc := 14) 0 d_X12_skipWord_14 rfl rfl ?_
      refine r_dup (pc := 15) d_X12_skipWord_15 rfl ?_
      refine q_gI (pc := 16) g_X12_122 (K_102 h0) rfl d_X12_skipWord_16 ?_
      refine r_iconst (pc := 19) (1 : Int32) d_X12_skipWord_19 rfl ?_
      refine r_iadd (pc := 20) d_X12_skipWord_20 ?_
      refine r_putI (pc := 21) p_X12_122 (K_102 h0) rfl (Or.inl rfl) d_X12_skipWord_21 ?_
      refine r_letD (f := (oV Sh)) (fun D4 => ?_)
      refine r_goto (pc := 24) 0 d_X12_skipWord_24 (by decide) ?_
      refine r_pick [0] (ls' := [(0, .ref 102)]) rfl ?_
      exact hk0 D4 
theorem s_X12_skipWord {X : zX} {Sh : zSh} {d : Nat} (hst : (zl X).stackTraces = false) (h0 : zSh0 Sh) (hd : 2 ≤ d)  {D : zD} : Sd X m_X12_skipWord d [.ref 102] (Sh, D) ((oV Sh) (fn_X12_skipWord D)) := by
  obtain ⟨d, rfl⟩ : ∃ e, d = e + 1 := ⟨d - 1, by omega⟩
  replace hd : 1 ≤ d := by omega
  refine z_body ck_X12_skipWord rfl (Nat.le_of_ble_eq_true rfl) rfl hst ?_
  rw [fn_X12_skipWord]
  show Rn X m_X12_skipWord (d + 1) 0 [(0, .ref 102)] [] (Sh, D) _
  refine r_pick [0] (ls' := [(0, .ref 102)]) rfl ?_
  exact s_X12_skipWord_0 hst h0 hd zFU  D
/-! CoveredSignsModel.eats -/
theorem d_X12_eats_0 : decode (yB m_X12_eats) 0 = .ok (.aload_n 0, 1) := by decide +kernel
theorem d_X12_eats_1 : decode (yB m_X12_eats) 1 = .ok (.iload_n 1, 1) := by decide +kernel
theorem d_X12_eats_2 : decode (yB m_X12_eats) 2 = .ok (.iload_n 2, 1) := by decide +kernel
theorem d_X12_eats_3 : decode (yB m_X12_eats) 3 = .ok (.iload_n 3, 1) := by decide +kernel
theorem d_X12_eats_4 : decode (yB m_X12_eats) 4 = .ok (.iconst 0, 1) := by decide +kernel
theorem d_X12_eats_5 : decode (yB m_X12_eats) 5 = .ok (.iconst 0, 1) := by decide +kernel
theorem d_X12_eats_6 : decode (yB m_X12_eats) 6 = .ok (.iconst 0, 1) := by decide +kernel
theorem d_X12_eats_7 : decode (yB m_X12_eats) 7 = .ok (.invokevirtual 162, 3) := by decide +kernel
theorem d_X12_eats_10 : decode (yB m_X12_eats) 10 = .ok (.ifCond .ne 5, 3) := by decide +kernel
theorem d_X12_eats_13 : decode (yB m_X12_eats) 13 = .ok (.iconst 0, 1) := by decide +kernel
theorem d_X12_eats_14 : decode (yB m_X12_eats) 14 = .ok (.ireturn, 1) := by decide +kernel
theorem d_X12_eats_15 : decode (yB m_X12_eats) 15 = .ok (.aload_n 0, 1) := by decide +kernel
theorem d_X12_eats_16 : decode (yB m_X12_eats) 16 = .ok (.invokevirtual 166, 3) := by decide +kernel
theorem d_X12_eats_19 : decode (yB m_X12_eats) 19 = .ok (.iconst 1, 1) := by decide +kernel
theorem d_X12_eats_20 : decode (yB m_X12_eats) 20 = .ok (.ireturn, 1) := by decide +kernel
def fn_X12_eats (v1 : Int32) (v2 : Int32) (v3 : Int32) (D : zD) : Option (Int32 × zD) := (fn_X12_isWord v1 v2 v3 (0 : Int32) (0 : Int32) (0 : Int32) D).bind fun q1 => (if q1.1 = 0 then ((some ((0 : Int32), q1.2))) else ((fn_X12_skipWord q1.2).bind fun D3 => (some ((1 : Int32), D3))))
theorem s_X12_eats {X : zX} {Sh : zSh} {d : Nat} (hst : (zl X).stackTraces = false) (h0 : zSh0 Sh) (hd : 5 ≤ d) {v1 : Int32} {v2 : Int32} {v3 : Int32} {D : zD} : Sd X m_X12_eats d [.ref 102, .int v1, .int v2, .int v3] (Sh, D) ((oI Sh) (fn_X12_eats v1 v2 v3 D)) := by
  obtain ⟨d, rfl⟩ : ∃ e, d = e + 1 := ⟨d - 1, by omega⟩
  replace hd : 4 ≤ d := by omega
  refine z_body ck_X12_eats rfl (Nat.le_of_ble_eq_true rfl) rfl hst ?_
  rw [fn_X12_eats]
  show Rn X m_X12_eats (d + 1) 0 [(0, .ref 102), (1, .int v1), (2, .int v2), (3, .int v3)] [] (Sh, D) _
  refine r_aload_n (pc := 0) 0 d_X12_eats_0 rfl rfl ?_
  refine r_iload_n (pc := 1) 1 d_X12_eats_1 rfl rfl ?_
  refine r_iload_n (pc := 2) 2 d_X12_eats_2 rfl rfl ?_
  refine r_iload_n (pc := 3) 3 d_X12_eats_3 rfl rfl ?_
  refine r_iconst (pc := 4) (0 : Int32) d_X12_eats_4 rfl ?_
  refine r_iconst (pc := 5) (0 : Int32) d_X12_eats_5 rfl ?_
  refine r_iconst (pc := 6) (0 : Int32) d_X12_eats_6 rfl ?_
  refine q_cI (f := (oI Sh)) (av := [.ref 102, .int v1, .int v2, .int v3, .int (0 : Int32), .int (0 : Int32), .int (0 : Int32)]) (st := []) (z_runV ck_X12_isWord rfl ml_X12_162 ci_X12_isWord cv_X12_isWord (K_102 h0) (ci := 12) rfl rfl (Nat.le_of_ble_eq_true rfl) d_X12_eats_7) (s_X12_isWord hst h0 (by omega)) kp_I (fun q1 _ => ?_)
  refine r_if_ne (f := (oI Sh)) (pc := 10) 15 d_X12_eats_10 (by decide) (fun c2 => ?_) (fun c2 => ?_)
  · refine r_aload_n (pc := 15) 0 d_X12_eats_15 rfl rfl ?_
    refine q_cV (f := (oI Sh)) (av := [.ref 102]) (st := []) (z_runV ck_X12_skipWord rfl ml_X12_166 ci_X12_skipWord cv_X12_skipWord (K_102 h0) (ci := 12) rfl rfl (Nat.le_of_ble_eq_true rfl) d_X12_eats_16) (s_X12_skipWord hst h0 (by omega)) kp_I (fun D3 _ => ?_)
    refine r_iconst (pc := 19) (1 : Int32) d_X12_eats_19 rfl ?_
    exact r_zret (pc := 20) rfl (by decide) d_X12_eats_20
  · refine r_iconst (pc := 13) (0 : Int32) d_X12_eats_13 rfl ?_
    exact r_zret (pc := 14) rfl (by decide) d_X12_eats_14
/-! CoveredSignsModel.closes -/
theorem d_X12_closes_0 : decode (yB m_X12_closes) 0 = .ok (.aload_n 0, 1) := by decide +kernel
theorem d_X12_closes_1 : decode (yB m_X12_closes) 1 = .ok (.getfield 129, 3) := by decide +kernel
theorem d_X12_closes_4 : decode (yB m_X12_closes) 4 = .ok (.ifCond .eq 4, 3) := by decide +kernel
theorem d_X12_closes_7 : decode (yB m_X12_closes) 7 = .ok (.return_, 1) := by decide +kernel
theorem d_X12_closes_8 : decode (yB m_X12_closes) 8 = .ok (.aload_n 0, 1) := by decide +kernel
theorem d_X12_closes_9 : decode (yB m_X12_closes) 9 = .ok (.invokevirtual 135, 3) := by decide +kernel
theorem d_X12_closes_12 : decode (yB m_X12_closes) 12 = .ok (.aload_n 0, 1) := by decide +kernel
theorem d_X12_closes_13 : decode (yB m_X12_closes) 13 = .ok (.aload_n 0, 1) := by decide +kernel
theorem d_X12_closes_14 : decode (yB m_X12_closes) 14 = .ok (.getfield 122, 3) := by decide +kernel
theorem d_X12_closes_17 : decode (yB m_X12_closes) 17 = .ok (.invokevirtual 125, 3) := by decide +kernel
theorem d_X12_closes_20 : decode (yB m_X12_closes) 20 = .ok (.iload_n 1, 1) := by decide +kernel
theorem d_X12_closes_21 : decode (yB m_X12_closes) 21 = .ok (.if_icmp .ne 16, 3) := by decide +kernel
theorem d_X12_closes_24 : decode (yB m_X12_closes) 24 = .ok (.aload_n 0, 1) := by decide +kernel
theorem d_X12_closes_25 : decode (yB m_X12_closes) 25 = .ok (.dup, 1) := by decide +kernel
theorem d_X12_closes_26 : decode (yB m_X12_closes) 26 = .ok (.getfield 122, 3) := by decide +kernel
theorem d_X12_closes_29 : decode (yB m_X12_closes) 29 = .ok (.iconst 1, 1) := by decide +kernel
theorem d_X12_closes_30 : decode (yB m_X12_closes) 30 = .ok (.iadd, 1) := by decide +kernel
theorem d_X12_closes_31 : decode (yB m_X12_closes) 31 = .ok (.putfield 122, 3) := by decide +kernel
theorem d_X12_closes_34 : decode (yB m_X12_closes) 34 = .ok (.goto 12, 3) := by decide +kernel
theorem d_X12_closes_37 : decode (yB m_X12_closes) 37 = .ok (.aload_n 0, 1) := by decide +kernel
theorem d_X12_closes_38 : decode (yB m_X12_closes) 38 = .ok (.iconst 1, 1) := by decide +kernel
theorem d_X12_closes_39 : decode (yB m_X12_closes) 39 = .ok (.aload_n 0, 1) := by decide +kernel
theorem d_X12_closes_40 : decode (yB m_X12_closes) 40 = .ok (.getfield 122, 3) := by decide +kernel
theorem d_X12_closes_43 : decode (yB m_X12_closes) 43 = .ok (.invokevirtual 142, 3) := by decide +kernel
theorem d_X12_closes_46 : decode (yB m_X12_closes) 46 = .ok (.return_, 1) := by decide +kernel
def fn_X12_closes (v1 : Int32) (D : zD) : Option zD := (if (gI D 102 5) = 0 then ((fn_X12_blanks D).bind fun D2 => (fn_X12_byteAt (gI D2 102 4) D2).bind fun x3 => (if x3 = v1 then (zlet (sI D2 102 4 ((gI D2 102 4) + (1 : Int32))) fun D6 => (some D6)) else ((fn_X12_wrong (1 : Int32) (gI D2 102 4) D2).bind fun D5 => (some D5)))) else ((some D)))
theorem s_X12_closes {X : zX} {Sh : zSh} {d : Nat} (hst : (zl X).stackTraces = false) (h0 : zSh0 Sh) (hd : 3 ≤ d) {v1 : Int32} {D : zD} : Sd X m_X12_closes d [.ref 102, .int v1] (Sh, D) ((oV Sh) (fn_X12_closes v1 D)) := by
  obtain ⟨d, rfl⟩ : ∃ e, d = e + 1 := ⟨d - 1, by omega⟩
  replace hd : 2 ≤ d := by omega
  refine z_body ck_X12_closes rfl (Nat.le_of_ble_eq_true rfl) rfl hst ?_
  rw [fn_X12_closes]
  show Rn X m_X12_closes (d + 1) 0 [(0, .ref 102), (1, .int v1)] [] (Sh, D) _
  refine r_aload_n (pc := 0) 0 d_X12_closes_0 rfl rfl ?_
  refine q_gI (pc := 1) g_X12_129 (K_102 h0) rfl d_X12_closes_1 ?_
  refine r_if_eq (f := (oV Sh)) (pc := 4) 8 d_X12_closes_4 (by decide) (fun c1 => ?_) (fun c1 => ?_)
  · refine r_aload_n (pc := 8) 0 d_X12_closes_8 rfl rfl ?_
    refine q_cV (f := (oV Sh)) (av := [.ref 102]) (st := []) (z_runV ck_X12_blanks rfl ml_X12_135 ci_X12_blanks cv_X12_blanks (K_102 h0) (ci := 12) rfl rfl (Nat.le_of_ble_eq_true rfl) d_X12_closes_9) (s_X12_blanks hst h0 (by omega)) kp_V (fun D2 _ => ?_)
    refine r_aload_n (pc := 12) 0 d_X12_closes_12 rfl rfl ?_
    refine r_aload_n (pc := 13) 0 d_X12_closes_13 rfl rfl ?_
    refine q_gI (pc := 14) g_X12_122 (K_102 h0) rfl d_X12_closes_14 ?_
    refine q_cP (f := (oV Sh)) (av := [.ref 102, .int (gI D2 102 4)]) (st := []) (z_runV ck_X12_byteAt rfl ml_X12_125 ci_X12_byteAt cv_X12_byteAt (K_102 h0) (ci := 12) rfl rfl (Nat.le_of_ble_eq_true rfl) d_X12_closes_17) (s_X12_byteAt hst h0 (by omega)) kp_V (fun x3 _ => ?_)
    refine r_iload_n (pc := 20) 1 d_X12_closes_20 rfl rfl ?_
    refine r_icmp_ne (f := (oV Sh)) (pc := 21) 37 d_X12_closes_21 (by decide) (fun c4 => ?_) (fun c4 => ?_)
    · refine r_aload_n (pc := 37) 0 d_X12_closes_37 rfl rfl ?_
      refine r_iconst (pc := 38) (1 : Int32) d_X12_closes_38 rfl ?_
      refine r_aload_n (pc := 39) 0 d_X12_closes_39 rfl rfl ?_
      refine q_gI (pc := 40) g_X12_122 (K_102 h0) rfl d_X12_closes_40 ?_
      refine q_cV (f := (oV Sh)) (av := [.ref 102, .int (1 : Int32), .int (gI D2 102 4)]) (st := []) (z_runV ck_X12_wrong rfl ml_X12_142 ci_X12_wrong cv_X12_wrong (K_102 h0) (ci := 12) rfl rfl (Nat.le_of_ble_eq_true rfl) d_X12_closes_43) (s_X12_wrong hst h0 (by omega)) kp_V (fun D5 _ => ?_)
      exact r_vret (pc := 46) rfl d_X12_closes_46
    · refine r_aload_n (pc := 24) 0 d_X12_closes_24 rfl rfl ?_
      refine r_dup (pc := 25) d_X12_closes_25 rfl ?_
      refine q_gI (pc := 26) g_X12_122 (K_102 h0) rfl d_X12_closes_26 ?_
      refine r_iconst (pc := 29) (1 : Int32) d_X12_closes_29 rfl ?_
      refine r_iadd (pc := 30) d_X12_closes_30 ?_
      refine r_putI (pc := 31) p_X12_122 (K_102 h0) rfl (Or.inl rfl) d_X12_closes_31 ?_
      refine r_letD (f := (oV Sh)) (fun D6 => ?_)
      refine r_goto (pc := 34) 46 d_X12_closes_34 (by decide) ?_
      exact r_vret (pc := 46) rfl d_X12_closes_46
  · exact r_vret (pc := 7) rfl d_X12_closes_7
/-! CoveredSignsModel.starts -/
theorem d_X12_starts_0 : decode (yB m_X12_starts) 0 = .ok (.aload_n 0, 1) := by decide +kernel
theorem d_X12_starts_1 : decode (yB m_X12_starts) 1 = .ok (.iconst 0, 1) := by decide +kernel
theorem d_X12_starts_2 : decode (yB m_X12_starts) 2 = .ok (.putfield 116, 3) := by decide +kernel
theorem d_X12_starts_5 : decode (yB m_X12_starts) 5 = .ok (.aload_n 0, 1) := by decide +kernel
theorem d_X12_starts_6 : decode (yB m_X12_starts) 6 = .ok (.iload_n 1, 1) := by decide +kernel
theorem d_X12_starts_7 : decode (yB m_X12_starts) 7 = .ok (.putfield 119, 3) := by decide +kernel
theorem d_X12_starts_10 : decode (yB m_X12_starts) 10 = .ok (.aload_n 0, 1) := by decide +kernel
theorem d_X12_starts_11 : decode (yB m_X12_starts) 11 = .ok (.iconst 0, 1) := by decide +kernel
theorem d_X12_starts_12 : decode (yB m_X12_starts) 12 = .ok (.putfield 122, 3) := by decide +kernel
theorem d_X12_starts_15 : decode (yB m_X12_starts) 15 = .ok (.aload_n 0, 1) := by decide +kernel
theorem d_X12_starts_16 : decode (yB m_X12_starts) 16 = .ok (.iconst 0, 1) := by decide +kernel
theorem d_X12_starts_17 : decode (yB m_X12_starts) 17 = .ok (.putfield 129, 3) := by decide +kernel
theorem d_X12_starts_20 : decode (yB m_X12_starts) 20 = .ok (.aload_n 0, 1) := by decide +kernel
theorem d_X12_starts_21 : decode (yB m_X12_starts) 21 = .ok (.iconst (-1), 1) := by decide +kernel
theorem d_X12_starts_22 : decode (yB m_X12_starts) 22 = .ok (.putfield 132, 3) := by decide +kernel
theorem d_X12_starts_25 : decode (yB m_X12_starts) 25 = .ok (.aload_n 0, 1) := by decide +kernel
theorem d_X12_starts_26 : decode (yB m_X12_starts) 26 = .ok (.iconst 0, 1) := by decide +kernel
theorem d_X12_starts_27 : decode (yB m_X12_starts) 27 = .ok (.putfield 169, 3) := by decide +kernel
theorem d_X12_starts_30 : decode (yB m_X12_starts) 30 = .ok (.aload_n 0, 1) := by decide +kernel
theorem d_X12_starts_31 : decode (yB m_X12_starts) 31 = .ok (.iconst 0, 1) := by decide +kernel
theorem d_X12_starts_32 : decode (yB m_X12_starts) 32 = .ok (.putfield 172, 3) := by decide +kernel
theorem d_X12_starts_35 : decode (yB m_X12_starts) 35 = .ok (.aload_n 0, 1) := by decide +kernel
theorem d_X12_starts_36 : decode (yB m_X12_starts) 36 = .ok (.iconst 0, 1) := by decide +kernel
theorem d_X12_starts_37 : decode (yB m_X12_starts) 37 = .ok (.putfield 175, 3) := by decide +kernel
theorem d_X12_starts_40 : decode (yB m_X12_starts) 40 = .ok (.aload_n 0, 1) := by decide +kernel
theorem d_X12_starts_41 : decode (yB m_X12_starts) 41 = .ok (.iconst 0, 1) := by decide +kernel
theorem d_X12_starts_42 : decode (yB m_X12_starts) 42 = .ok (.putfield 179, 3) := by decide +kernel
theorem d_X12_starts_45 : decode (yB m_X12_starts) 45 = .ok (.return_, 1) := by decide +kernel
def fn_X12_starts (v1 : Int32) (D : zD) : Option zD := zlet (sI D 102 1 (0 : Int32)) fun D1 => zlet (sI D1 102 2 v1) fun D2 => zlet (sI D2 102 4 (0 : Int32)) fun D3 => zlet (sI D3 102 5 (0 : Int32)) fun D4 => zlet (sI D4 102 6 (-1 : Int32)) fun D5 => zlet (sI D5 102 7 (0 : Int32)) fun D6 => zlet (sI D6 102 8 (0 : Int32)) fun D7 => zlet (sI D7 102 33 (0 : Int32)) fun D8 => zlet (sI D8 102 27 (0 : Int32)) fun D9 => (some D9)
theorem s_X12_starts {X : zX} {Sh : zSh} {d : Nat} (hst : (zl X).stackTraces = false) (h0 : zSh0 Sh) (hd : 1 ≤ d) {v1 : Int32} {D : zD} : Sd X m_X12_starts d [.ref 102, .int v1] (Sh, D) ((oV Sh) (fn_X12_starts v1 D)) := by
  obtain ⟨d, rfl⟩ : ∃ e, d = e + 1 := ⟨d - 1, by omega⟩
  replace hd : 0 ≤ d := by omega
  refine z_body ck_X12_starts rfl (Nat.le_of_ble_eq_true rfl) rfl hst ?_
  rw [fn_X12_starts]
  show Rn X m_X12_starts (d + 1) 0 [(0, .ref 102), (1, .int v1)] [] (Sh, D) _
  refine r_aload_n (pc := 0) 0 d_X12_starts_0 rfl rfl ?_
  refine r_iconst (pc := 1) (0 : Int32) d_X12_starts_1 rfl ?_
  refine r_putI (pc := 2) p_X12_116 (K_102 h0) rfl (Or.inl rfl) d_X12_starts_2 ?_
  refine r_letD (f := (oV Sh)) (fun D1 => ?_)
  refine r_aload_n (pc := 5) 0 d_X12_starts_5 rfl rfl ?_
  refine r_iload_n (pc := 6) 1 d_X12_starts_6 rfl rfl ?_
  refine r_putI (pc := 7) p_X12_119 (K_102 h0) rfl (Or.inl rfl) d_X12_starts_7 ?_
  refine r_letD (f := (oV Sh)) (fun D2 => ?_)
  refine r_aload_n (pc := 10) 0 d_X12_starts_10 rfl rfl ?_
  refine r_iconst (pc := 11) (0 : Int32) d_X12_starts_11 rfl ?_
  refine r_putI (pc := 12) p_X12_122 (K_102 h0) rfl (Or.inl rfl) d_X12_starts_12 ?_
  refine r_letD (f := (oV Sh)) (fun D3 => ?_)
  refine r_aload_n (pc := 15) 0 d_X12_starts_15 rfl rfl ?_
  refine r_iconst (pc := 16) (0 : Int32) d_X12_starts_16 rfl ?_
  refine r_putI (pc := 17) p_X12_129 (K_102 h0) rfl (Or.inl rfl) d_X12_starts_17 ?_
  refine r_letD (f := (oV Sh)) (fun D4 => ?_)
  refine r_aload_n (pc := 20) 0 d_X12_starts_20 rfl rfl ?_
  refine r_iconst (pc := 21) (-1 : Int32) d_X12_starts_21 rfl ?_
  refine r_putI (pc := 22) p_X12_132 (K_102 h0) rfl (Or.inl rfl) d_X12_starts_22 ?_
  refine r_letD (f := (oV Sh)) (fun D5 => ?_)
  refine r_aload_n (pc := 25) 0 d_X12_starts_25 rfl rfl ?_
  refine r_iconst (pc := 26) (0 : Int32) d_X12_starts_26 rfl ?_
  refine r_putI (pc := 27) p_X12_169 (K_102 h0) rfl (Or.inl rfl) d_X12_starts_27 ?_
  refine r_letD (f := (oV Sh)) (fun D6 => ?_)
  refine r_aload_n (pc := 30) 0 d_X12_starts_30 rfl rfl ?_
  refine r_iconst (pc := 31) (0 : Int32) d_X12_starts_31 rfl ?_
  refine r_putI (pc := 32) p_X12_172 (K_102 h0) rfl (Or.inl rfl) d_X12_starts_32 ?_
  refine r_letD (f := (oV Sh)) (fun D7 => ?_)
  refine r_aload_n (pc := 35) 0 d_X12_starts_35 rfl rfl ?_
  refine r_iconst (pc := 36) (0 : Int32) d_X12_starts_36 rfl ?_
  refine r_putI (pc := 37) p_X12_175 (K_102 h0) rfl (Or.inr ⟨rfl, by decide⟩) d_X12_starts_37 ?_
  refine r_letD (f := (oV Sh)) (fun D8 => ?_)
  refine r_aload_n (pc := 40) 0 d_X12_starts_40 rfl rfl ?_
  refine r_iconst (pc := 41) (0 : Int32) d_X12_starts_41 rfl ?_
  refine r_putI (pc := 42) p_X12_179 (K_102 h0) rfl (Or.inl rfl) d_X12_starts_42 ?_
  refine r_letD (f := (oV Sh)) (fun D9 => ?_)
  exact r_vret (pc := 45) rfl d_X12_starts_45
/-! CoveredSignsModel.kindHere -/
theorem d_X12_kindHere_0 : decode (yB m_X12_kindHere) 0 = .ok (.aload_n 0, 1) := by decide +kernel
theorem d_X12_kindHere_1 : decode (yB m_X12_kindHere) 1 = .ok (.iconst 2, 1) := by decide +kernel
theorem d_X12_kindHere_2 : decode (yB m_X12_kindHere) 2 = .ok (.bipush 15, 2) := by decide +kernel
theorem d_X12_kindHere_4 : decode (yB m_X12_kindHere) 4 = .ok (.iconst 1, 1) := by decide +kernel
theorem d_X12_kindHere_5 : decode (yB m_X12_kindHere) 5 = .ok (.bipush 18, 2) := by decide +kernel
theorem d_X12_kindHere_7 : decode (yB m_X12_kindHere) 7 = .ok (.iconst 4, 1) := by decide +kernel
theorem d_X12_kindHere_8 : decode (yB m_X12_kindHere) 8 = .ok (.iconst 0, 1) := by decide +kernel
theorem d_X12_kindHere_9 : decode (yB m_X12_kindHere) 9 = .ok (.invokevirtual 162, 3) := by decide +kernel
theorem d_X12_kindHere_12 : decode (yB m_X12_kindHere) 12 = .ok (.ifCond .eq 5, 3) := by decide +kernel
theorem d_X12_kindHere_15 : decode (yB m_X12_kindHere) 15 = .ok (.iconst 0, 1) := by decide +kernel
theorem d_X12_kindHere_16 : decode (yB m_X12_kindHere) 16 = .ok (.ireturn, 1) := by decide +kernel
theorem d_X12_kindHere_17 : decode (yB m_X12_kindHere) 17 = .ok (.aload_n 0, 1) := by decide +kernel
theorem d_X12_kindHere_18 : decode (yB m_X12_kindHere) 18 = .ok (.bipush 19, 2) := by decide +kernel
theorem d_X12_kindHere_20 : decode (yB m_X12_kindHere) 20 = .ok (.bipush 9, 2) := by decide +kernel
theorem d_X12_kindHere_22 : decode (yB m_X12_kindHere) 22 = .ok (.bipush 7, 2) := by decide +kernel
theorem d_X12_kindHere_24 : decode (yB m_X12_kindHere) 24 = .ok (.bipush 14, 2) := by decide +kernel
theorem d_X12_kindHere_26 : decode (yB m_X12_kindHere) 26 = .ok (.iconst 0, 1) := by decide +kernel
theorem d_X12_kindHere_27 : decode (yB m_X12_kindHere) 27 = .ok (.iconst 0, 1) := by decide +kernel
theorem d_X12_kindHere_28 : decode (yB m_X12_kindHere) 28 = .ok (.invokevirtual 162, 3) := by decide +kernel
theorem d_X12_kindHere_31 : decode (yB m_X12_kindHere) 31 = .ok (.ifCond .eq 5, 3) := by decide +kernel
theorem d_X12_kindHere_34 : decode (yB m_X12_kindHere) 34 = .ok (.iconst 1, 1) := by decide +kernel
theorem d_X12_kindHere_35 : decode (yB m_X12_kindHere) 35 = .ok (.ireturn, 1) := by decide +kernel
theorem d_X12_kindHere_36 : decode (yB m_X12_kindHere) 36 = .ok (.aload_n 0, 1) := by decide +kernel
theorem d_X12_kindHere_37 : decode (yB m_X12_kindHere) 37 = .ok (.iconst 1, 1) := by decide +kernel
theorem d_X12_kindHere_38 : decode (yB m_X12_kindHere) 38 = .ok (.iconst 3, 1) := by decide +kernel
theorem d_X12_kindHere_39 : decode (yB m_X12_kindHere) 39 = .ok (.bipush 18, 2) := by decide +kernel
theorem d_X12_kindHere_41 : decode (yB m_X12_kindHere) 41 = .ok (.bipush 15, 2) := by decide +kernel
theorem d_X12_kindHere_43 : decode (yB m_X12_kindHere) 43 = .ok (.bipush 19, 2) := by decide +kernel
theorem d_X12_kindHere_45 : decode (yB m_X12_kindHere) 45 = .ok (.bipush 19, 2) := by decide +kernel
theorem d_X12_kindHere_47 : decode (yB m_X12_kindHere) 47 = .ok (.invokevirtual 162, 3) := by decide +kernel
theorem d_X12_kindHere_50 : decode (yB m_X12_kindHere) 50 = .ok (.ifCond .eq 5, 3) := by decide +kernel
theorem d_X12_kindHere_53 : decode (yB m_X12_kindHere) 53 = .ok (.iconst 2, 1) := by decide +kernel
theorem d_X12_kindHere_54 : decode (yB m_X12_kindHere) 54 = .ok (.ireturn, 1) := by decide +kernel
theorem d_X12_kindHere_55 : decode (yB m_X12_kindHere) 55 = .ok (.aload_n 0, 1) := by decide +kernel
theorem d_X12_kindHere_56 : decode (yB m_X12_kindHere) 56 = .ok (.iconst 4, 1) := by decide +kernel
theorem d_X12_kindHere_57 : decode (yB m_X12_kindHere) 57 = .ok (.bipush 15, 2) := by decide +kernel
theorem d_X12_kindHere_59 : decode (yB m_X12_kindHere) 59 = .ok (.bipush 23, 2) := by decide +kernel
theorem d_X12_kindHere_61 : decode (yB m_X12_kindHere) 61 = .ok (.bipush 14, 2) := by decide +kernel
theorem d_X12_kindHere_63 : decode (yB m_X12_kindHere) 63 = .ok (.iconst 0, 1) := by decide +kernel
theorem d_X12_kindHere_64 : decode (yB m_X12_kindHere) 64 = .ok (.iconst 0, 1) := by decide +kernel
theorem d_X12_kindHere_65 : decode (yB m_X12_kindHere) 65 = .ok (.invokevirtual 162, 3) := by decide +kernel
theorem d_X12_kindHere_68 : decode (yB m_X12_kindHere) 68 = .ok (.ifCond .eq 5, 3) := by decide +kernel
theorem d_X12_kindHere_71 : decode (yB m_X12_kindHere) 71 = .ok (.iconst 3, 1) := by decide +kernel
theorem d_X12_kindHere_72 : decode (yB m_X12_kindHere) 72 = .ok (.ireturn, 1) := by decide +kernel
theorem d_X12_kindHere_73 : decode (yB m_X12_kindHere) 73 = .ok (.aload_n 0, 1) := by decide +kernel
theorem d_X12_kindHere_74 : decode (yB m_X12_kindHere) 74 = .ok (.iconst 3, 1) := by decide +kernel
theorem d_X12_kindHere_75 : decode (yB m_X12_kindHere) 75 = .ok (.bipush 12, 2) := by decide +kernel
theorem d_X12_kindHere_77 : decode (yB m_X12_kindHere) 77 = .ok (.iconst 5, 1) := by decide +kernel
theorem d_X12_kindHere_78 : decode (yB m_X12_kindHere) 78 = .ok (.iconst 1, 1) := by decide +kernel
theorem d_X12_kindHere_79 : decode (yB m_X12_kindHere) 79 = .ok (.bipush 14, 2) := by decide +kernel
theorem d_X12_kindHere_81 : decode (yB m_X12_kindHere) 81 = .ok (.iconst 0, 1) := by decide +kernel
theorem d_X12_kindHere_82 : decode (yB m_X12_kindHere) 82 = .ok (.invokevirtual 162, 3) := by decide +kernel
theorem d_X12_kindHere_85 : decode (yB m_X12_kindHere) 85 = .ok (.ifCond .eq 5, 3) := by decide +kernel
theorem d_X12_kindHere_88 : decode (yB m_X12_kindHere) 88 = .ok (.iconst 4, 1) := by decide +kernel
theorem d_X12_kindHere_89 : decode (yB m_X12_kindHere) 89 = .ok (.ireturn, 1) := by decide +kernel
theorem d_X12_kindHere_90 : decode (yB m_X12_kindHere) 90 = .ok (.aload_n 0, 1) := by decide +kernel
theorem d_X12_kindHere_91 : decode (yB m_X12_kindHere) 91 = .ok (.bipush 20, 2) := by decide +kernel
theorem d_X12_kindHere_93 : decode (yB m_X12_kindHere) 93 = .ok (.bipush 21, 2) := by decide +kernel
theorem d_X12_kindHere_95 : decode (yB m_X12_kindHere) 95 = .ok (.bipush 18, 2) := by decide +kernel
theorem d_X12_kindHere_97 : decode (yB m_X12_kindHere) 97 = .ok (.bipush 14, 2) := by decide +kernel
theorem d_X12_kindHere_99 : decode (yB m_X12_kindHere) 99 = .ok (.iconst 5, 1) := by decide +kernel
theorem d_X12_kindHere_100 : decode (yB m_X12_kindHere) 100 = .ok (.iconst 4, 1) := by decide +kernel
theorem d_X12_kindHere_101 : decode (yB m_X12_kindHere) 101 = .ok (.invokevirtual 162, 3) := by decide +kernel
theorem d_X12_kindHere_104 : decode (yB m_X12_kindHere) 104 = .ok (.ifCond .eq 5, 3) := by decide +kernel
theorem d_X12_kindHere_107 : decode (yB m_X12_kindHere) 107 = .ok (.iconst 5, 1) := by decide +kernel
theorem d_X12_kindHere_108 : decode (yB m_X12_kindHere) 108 = .ok (.ireturn, 1) := by decide +kernel
theorem d_X12_kindHere_109 : decode (yB m_X12_kindHere) 109 = .ok (.aload_n 0, 1) := by decide +kernel
theorem d_X12_kindHere_110 : decode (yB m_X12_kindHere) 110 = .ok (.bipush 13, 2) := by decide +kernel
theorem d_X12_kindHere_112 : decode (yB m_X12_kindHere) 112 = .ok (.bipush 9, 2) := by decide +kernel
theorem d_X12_kindHere_114 : decode (yB m_X12_kindHere) 114 = .ok (.bipush 18, 2) := by decide +kernel
theorem d_X12_kindHere_116 : decode (yB m_X12_kindHere) 116 = .ok (.bipush 18, 2) := by decide +kernel
theorem d_X12_kindHere_118 : decode (yB m_X12_kindHere) 118 = .ok (.bipush 15, 2) := by decide +kernel
theorem d_X12_kindHere_120 : decode (yB m_X12_kindHere) 120 = .ok (.bipush 18, 2) := by decide +kernel
theorem d_X12_kindHere_122 : decode (yB m_X12_kindHere) 122 = .ok (.invokevirtual 162, 3) := by decide +kernel
theorem d_X12_kindHere_125 : decode (yB m_X12_kindHere) 125 = .ok (.ifCond .eq 6, 3) := by decide +kernel
theorem d_X12_kindHere_128 : decode (yB m_X12_kindHere) 128 = .ok (.bipush 6, 2) := by decide +kernel
theorem d_X12_kindHere_130 : decode (yB m_X12_kindHere) 130 = .ok (.ireturn, 1) := by decide +kernel
theorem d_X12_kindHere_131 : decode (yB m_X12_kindHere) 131 = .ok (.aload_n 0, 1) := by decide +kernel
theorem d_X12_kindHere_132 : decode (yB m_X12_kindHere) 132 = .ok (.bipush 6, 2) := by decide +kernel
theorem d_X12_kindHere_134 : decode (yB m_X12_kindHere) 134 = .ok (.iconst 1, 1) := by decide +kernel
theorem d_X12_kindHere_135 : decode (yB m_X12_kindHere) 135 = .ok (.bipush 13, 2) := by decide +kernel
theorem d_X12_kindHere_137 : decode (yB m_X12_kindHere) 137 = .ok (.bipush 9, 2) := by decide +kernel
theorem d_X12_kindHere_139 : decode (yB m_X12_kindHere) 139 = .ok (.bipush 12, 2) := by decide +kernel
theorem d_X12_kindHere_141 : decode (yB m_X12_kindHere) 141 = .ok (.bipush 25, 2) := by decide +kernel
theorem d_X12_kindHere_143 : decode (yB m_X12_kindHere) 143 = .ok (.invokevirtual 162, 3) := by decide +kernel
theorem d_X12_kindHere_146 : decode (yB m_X12_kindHere) 146 = .ok (.ifCond .eq 6, 3) := by decide +kernel
theorem d_X12_kindHere_149 : decode (yB m_X12_kindHere) 149 = .ok (.bipush 7, 2) := by decide +kernel
theorem d_X12_kindHere_151 : decode (yB m_X12_kindHere) 151 = .ok (.ireturn, 1) := by decide +kernel
theorem d_X12_kindHere_152 : decode (yB m_X12_kindHere) 152 = .ok (.aload_n 0, 1) := by decide +kernel
theorem d_X12_kindHere_153 : decode (yB m_X12_kindHere) 153 = .ok (.bipush 23, 2) := by decide +kernel
theorem d_X12_kindHere_155 : decode (yB m_X12_kindHere) 155 = .ok (.bipush 15, 2) := by decide +kernel
theorem d_X12_kindHere_157 : decode (yB m_X12_kindHere) 157 = .ok (.bipush 18, 2) := by decide +kernel
theorem d_X12_kindHere_159 : decode (yB m_X12_kindHere) 159 = .ok (.iconst 4, 1) := by decide +kernel
theorem d_X12_kindHere_160 : decode (yB m_X12_kindHere) 160 = .ok (.iconst 0, 1) := by decide +kernel
theorem d_X12_kindHere_161 : decode (yB m_X12_kindHere) 161 = .ok (.iconst 0, 1) := by decide +kernel
theorem d_X12_kindHere_162 : decode (yB m_X12_kindHere) 162 = .ok (.invokevirtual 162, 3) := by decide +kernel
theorem d_X12_kindHere_165 : decode (yB m_X12_kindHere) 165 = .ok (.ifCond .eq 8, 3) := by decide +kernel
theorem d_X12_kindHere_168 : decode (yB m_X12_kindHere) 168 = .ok (.bipush 8, 2) := by decide +kernel
theorem d_X12_kindHere_170 : decode (yB m_X12_kindHere) 170 = .ok (.goto 4, 3) := by decide +kernel
theorem d_X12_kindHere_173 : decode (yB m_X12_kindHere) 173 = .ok (.iconst (-1), 1) := by decide +kernel
theorem d_X12_kindHere_174 : decode (yB m_X12_kindHere) 174 = .ok (.ireturn, 1) := by decide +kernel
def fn_X12_kindHere (D : zD) : Option (Int32 × zD) := (fn_X12_isWord (2 : Int32) (15 : Int32) (1 : Int32) (18 : Int32) (4 : Int32) (0 : Int32) D).bind fun q1 => (if q1.1 = 0 then ((fn_X12_isWord (19 : Int32) (9 : Int32) (7 : Int32) (14 : Int32) (0 : Int32) (0 : Int32) q1.2).bind fun q3 => (if q3.1 = 0 then ((fn_X12_isWord (1 : Int32) (3 : Int32) (18 : Int32) (15 : Int32) (19 : Int32) (19 : Int32) q3.2).bind fun q5 => (if q5.1 = 0 then ((fn_X12_isWord (4 : Int32) (15 : Int32) (23 : Int32) (14 : Int32) (0 : Int32) (0 : Int32) q5.2).bind fun q7 => (if q7.1 = 0 then ((fn_X12_isWord (3 : Int32) (12 : Int32) (5 : Int32) (1 : Int32) (14 : Int32) (0 : Int32) q7.2).bind fun q9 => (if q9.1 = 0 then ((fn_X12_isWord (20 : Int32) (21 : Int32) (18 : Int32) (14 : Int32) (5 : Int32) (4 : Int32) q9.2).bind fun q11 => (if q11.1 = 0 then ((fn_X12_isWord (13 : Int32) (9 : Int32) (18 : Int32) (18 : Int32) (15 : Int32) (18 : Int32) q11.2).bind fun q13 => (if q13.1 = 0 then ((fn_X12_isWord (6 : Int32) (1 : Int32) (13 : Int32) (9 : Int32) (12 : Int32) (25 : Int32) q13.2).bind fun q15 => (if q15.1 = 0 then ((fn_X12_isWord (23 : Int32) (15 : Int32) (18 : Int32) (4 : Int32) (0 : Int32) (0 : Int32) q15.2).bind fun q17 => (if q17.1 = 0 then ((some ((-1 : Int32), q17.2))) else ((some ((8 : Int32), q17.2))))) else ((some ((7 : Int32), q15.2))))) else ((some ((6 : Int32), q13.2))))) else ((some ((5 : Int32), q11.2))))) else ((some ((4 : Int32), q9.2))))) else ((some ((3 : Int32), q7.2))))) else ((some ((2 : Int32), q5.2))))) else ((some ((1 : Int32), q3.2))))) else ((some ((0 : Int32), q1.2))))
theorem s_X12_kindHere {X : zX} {Sh : zSh} {d : Nat} (hst : (zl X).stackTraces = false) (h0 : zSh0 Sh) (hd : 5 ≤ d)  {D : zD} : Sd X m_X12_kindHere d [.ref 102] (Sh, D) ((oI Sh) (fn_X12_kindHere D)) := by
  obtain ⟨d, rfl⟩ : ∃ e, d = e + 1 := ⟨d - 1, by omega⟩
  replace hd : 4 ≤ d := by omega
  refine z_body ck_X12_kindHere rfl (Nat.le_of_ble_eq_true rfl) rfl hst ?_
  rw [fn_X12_kindHere]
  show Rn X m_X12_kindHere (d + 1) 0 [(0, .ref 102)] [] (Sh, D) _
  refine r_aload_n (pc := 0) 0 d_X12_kindHere_0 rfl rfl ?_
  refine r_iconst (pc := 1) (2 : Int32) d_X12_kindHere_1 rfl ?_
  refine r_bipush (pc := 2) (15 : Int32) d_X12_kindHere_2 rfl ?_
  refine r_iconst (pc := 4) (1 : Int32) d_X12_kindHere_4 rfl ?_
  refine r_bipush (pc := 5) (18 : Int32) d_X12_kindHere_5 rfl ?_
  refine r_iconst (pc := 7) (4 : Int32) d_X12_kindHere_7 rfl ?_
  refine r_iconst (pc := 8) (0 : Int32) d_X12_kindHere_8 rfl ?_
  refine q_cI (f := (oI Sh)) (av := [.ref 102, .int (2 : Int32), .int (15 : Int32), .int (1 : Int32), .int (18 : Int32), .int (4 : Int32), .int (0 : Int32)]) (st := []) (z_runV ck_X12_isWord rfl ml_X12_162 ci_X12_isWord cv_X12_isWord (K_102 h0) (ci := 12) rfl rfl (Nat.le_of_ble_eq_true rfl) d_X12_kindHere_9) (s_X12_isWord hst h0 (by omega)) kp_I (fun q1 _ => ?_)
  refine r_if_eq (f := (oI Sh)) (pc := 12) 17 d_X12_kindHere_12 (by decide) (fun c2 => ?_) (fun c2 => ?_)
  · refine r_aload_n (pc := 17) 0 d_X12_kindHere_17 rfl rfl ?_
    refine r_bipush (pc := 18) (19 : Int32) d_X12_kindHere_18 rfl ?_
    refine r_bipush (pc := 20) (9 : Int32) d_X12_kindHere_20 rfl ?_
    refine r_bipush (pc := 22) (7 : Int32) d_X12_kindHere_22 rfl ?_
    refine r_bipush (pc := 24) (14 : Int32) d_X12_kindHere_24 rfl ?_
    refine r_iconst (pc := 26) (0 : Int32) d_X12_kindHere_26 rfl ?_
    refine r_iconst (pc := 27) (0 : Int32) d_X12_kindHere_27 rfl ?_
    refine q_cI (f := (oI Sh)) (av := [.ref 102, .int (19 : Int32), .int (9 : Int32), .int (7 : Int32), .int (14 : Int32), .int (0 : Int32), .int (0 : Int32)]) (st := []) (z_runV ck_X12_isWord rfl ml_X12_162 ci_X12_isWord cv_X12_isWord (K_102 h0) (ci := 12) rfl rfl (Nat.le_of_ble_eq_true rfl) d_X12_kindHere_28) (s_X12_isWord hst h0 (by omega)) kp_I (fun q3 _ => ?_)
    refine r_if_eq (f := (oI Sh)) (pc := 31) 36 d_X12_kindHere_31 (by decide) (fun c4 => ?_) (fun c4 => ?_)
    · refine r_aload_n (pc := 36) 0 d_X12_kindHere_36 rfl rfl ?_
      refine r_iconst (pc := 37) (1 : Int32) d_X12_kindHere_37 rfl ?_
      refine r_iconst (pc := 38) (3 : Int32) d_X12_kindHere_38 rfl ?_
      refine r_bipush (pc := 39) (18 : Int32) d_X12_kindHere_39 rfl ?_
      refine r_bipush (pc := 41) (15 : Int32) d_X12_kindHere_41 rfl ?_
      refine r_bipush (pc := 43) (19 : Int32) d_X12_kindHere_43 rfl ?_
      refine r_bipush (pc := 45) (19 : Int32) d_X12_kindHere_45 rfl ?_
      refine q_cI (f := (oI Sh)) (av := [.ref 102, .int (1 : Int32), .int (3 : Int32), .int (18 : Int32), .int (15 : Int32), .int (19 : Int32), .int (19 : Int32)]) (st := []) (z_runV ck_X12_isWord rfl ml_X12_162 ci_X12_isWord cv_X12_isWord (K_102 h0) (ci := 12) rfl rfl (Nat.le_of_ble_eq_true rfl) d_X12_kindHere_47) (s_X12_isWord hst h0 (by omega)) kp_I (fun q5 _ => ?_)
      refine r_if_eq (f := (oI Sh)) (pc := 50) 55 d_X12_kindHere_50 (by decide) (fun c6 => ?_) (fun c6 => ?_)
      · refine r_aload_n (pc := 55) 0 d_X12_kindHere_55 rfl rfl ?_
        refine r_iconst (pc := 56) (4 : Int32) d_X12_kindHere_56 rfl ?_
        refine r_bipush (pc := 57) (15 : Int32) d_X12_kindHere_57 rfl ?_
        refine r_bipush (pc := 59) (23 : Int32) d_X12_kindHere_59 rfl ?_
        refine r_bipush (pc := 61) (14 : Int32) d_X12_kindHere_61 rfl ?_
        refine r_iconst (pc := 63) (0 : Int32) d_X12_kindHere_63 rfl ?_
        refine r_iconst (pc := 64) (0 : Int32) d_X12_kindHere_64 rfl ?_
        refine q_cI (f := (oI Sh)) (av := [.ref 102, .int (4 : Int32), .int (15 : Int32), .int (23 : Int32), .int (14 : Int32), .int (0 : Int32), .int (0 : Int32)]) (st := []) (z_runV ck_X12_isWord rfl ml_X12_162 ci_X12_isWord cv_X12_isWord (K_102 h0) (ci := 12) rfl rfl (Nat.le_of_ble_eq_true rfl) d_X12_kindHere_65) (s_X12_isWord hst h0 (by omega)) kp_I (fun q7 _ => ?_)
        refine r_if_eq (f := (oI Sh)) (pc := 68) 73 d_X12_kindHere_68 (by decide) (fun c8 => ?_) (fun c8 => ?_)
        · refine r_aload_n (pc := 73) 0 d_X12_kindHere_73 rfl rfl ?_
          refine r_iconst (pc := 74) (3 : Int32) d_X12_kindHere_74 rfl ?_
          refine r_bipush (pc := 75) (12 : Int32) d_X12_kindHere_75 rfl ?_
          refine r_iconst (pc := 77) (5 : Int32) d_X12_kindHere_77 rfl ?_
          refine r_iconst (pc := 78) (1 : Int32) d_X12_kindHere_78 rfl ?_
          refine r_bipush (pc := 79) (14 : Int32) d_X12_kindHere_79 rfl ?_
          refine r_iconst (pc := 81) (0 : Int32) d_X12_kindHere_81 rfl ?_
          refine q_cI (f := (oI Sh)) (av := [.ref 102, .int (3 : Int32), .int (12 : Int32), .int (5 : Int32), .int (1 : Int32), .int (14 : Int32), .int (0 : Int32)]) (st := []) (z_runV ck_X12_isWord rfl ml_X12_162 ci_X12_isWord cv_X12_isWord (K_102 h0) (ci := 12) rfl rfl (Nat.le_of_ble_eq_true rfl) d_X12_kindHere_82) (s_X12_isWord hst h0 (by omega)) kp_I (fun q9 _ => ?_)
          refine r_if_eq (f := (oI Sh)) (pc := 85) 90 d_X12_kindHere_85 (by decide) (fun c10 => ?_) (fun c10 => ?_)
          · refine r_aload_n (pc := 90) 0 d_X12_kindHere_90 rfl rfl ?_
            refine r_bipush (pc := 91) (20 : Int32) d_X12_kindHere_91 rfl ?_
            refine r_bipush (pc := 93) (21 : Int32) d_X12_kindHere_93 rfl ?_
            refine r_bipush (pc := 95) (18 : Int32) d_X12_kindHere_95 rfl ?_
            refine r_bipush (pc := 97) (14 : Int32) d_X12_kindHere_97 rfl ?_
            refine r_iconst (pc := 99) (5 : Int32) d_X12_kindHere_99 rfl ?_
            refine r_iconst (pc := 100) (4 : Int32) d_X12_kindHere_100 rfl ?_
            refine q_cI (f := (oI Sh)) (av := [.ref 102, .int (20 : Int32), .int (21 : Int32), .int (18 : Int32), .int (14 : Int32), .int (5 : Int32), .int (4 : Int32)]) (st := []) (z_runV ck_X12_isWord rfl ml_X12_162 ci_X12_isWord cv_X12_isWord (K_102 h0) (ci := 12) rfl rfl (Nat.le_of_ble_eq_true rfl) d_X12_kindHere_101) (s_X12_isWord hst h0 (by omega)) kp_I (fun q11 _ => ?_)
            refine r_if_eq (f := (oI Sh)) (pc := 104) 109 d_X12_kindHere_104 (by decide) (fun c12 => ?_) (fun c12 => ?_)
            · refine r_aload_n (pc := 109) 0 d_X12_kindHere_109 rfl rfl ?_
              refine r_bipush (pc := 110) (13 : Int32) d_X12_kindHere_110 rfl ?_
              refine r_bipush (pc := 112) (9 : Int32) d_X12_kindHere_112 rfl ?_
              refine r_bipush (pc := 114) (18 : Int32) d_X12_kindHere_114 rfl ?_
              refine r_bipush (pc := 116) (18 : Int32) d_X12_kindHere_116 rfl ?_
              refine r_bipush (pc := 118) (15 : Int32) d_X12_kindHere_118 rfl ?_
              refine r_bipush (pc := 120) (18 : Int32) d_X12_kindHere_120 rfl ?_
              refine q_cI (f := (oI Sh)) (av := [.ref 102, .int (13 : Int32), .int (9 : Int32), .int (18 : Int32), .int (18 : Int32), .int (15 : Int32), .int (18 : Int32)]) (st := []) (z_runV ck_X12_isWord rfl ml_X12_162 ci_X12_isWord cv_X12_isWord (K_102 h0) (ci := 12) rfl rfl (Nat.le_of_ble_eq_true rfl) d_X12_kindHere_122) (s_X12_isWord hst h0 (by omega)) kp_I (fun q13 _ => ?_)
              refine r_if_eq (f := (oI Sh)) (pc := 125) 131 d_X12_kindHere_125 (by decide) (fun c14 => ?_) (fun c14 => ?_)
              · refine r_aload_n (pc := 131) 0 d_X12_kindHere_131 rfl rfl ?_
                refine r_bipush (pc := 132) (6 : Int32) d_X12_kindHere_132 rfl ?_
                refine r_iconst (pc := 134) (1 : Int32) d_X12_kindHere_134 rfl ?_
                refine r_bipush (pc := 135) (13 : Int32) d_X12_kindHere_135 rfl ?_
                refine r_bipush (pc := 137) (9 : Int32) d_X12_kindHere_137 rfl ?_
                refine r_bipush (pc := 139) (12 : Int32) d_X12_kindHere_139 rfl ?_
                refine r_bipush (pc := 141) (25 : Int32) d_X12_kindHere_141 rfl ?_
                refine q_cI (f := (oI Sh)) (av := [.ref 102, .int (6 : Int32), .int (1 : Int32), .int (13 : Int32), .int (9 : Int32), .int (12 : Int32), .int (25 : Int32)]) (st := []) (z_runV ck_X12_isWord rfl ml_X12_162 ci_X12_isWord cv_X12_isWord (K_102 h0) (ci := 12) rfl rfl (Nat.le_of_ble_eq_true rfl) d_X12_kindHere_143) (s_X12_isWord hst h0 (by omega)) kp_I (fun q15 _ => ?_)
                refine r_if_eq (f := (oI Sh)) (pc := 146) 152 d_X12_kindHere_146 (by decide) (fun c16 => ?_) (fun c16 => ?_)
                · refine r_aload_n (pc := 152) 0 d_X12_kindHere_152 rfl rfl ?_
                  refine r_bipush (pc := 153) (23 : Int32) d_X12_kindHere_153 rfl ?_
                  refine r_bipush (pc := 155) (15 : Int32) d_X12_kindHere_155 rfl ?_
                  refine r_bipush (pc := 157) (18 : Int32) d_X12_kindHere_157 rfl ?_
                  refine r_iconst (pc := 159) (4 : Int32) d_X12_kindHere_159 rfl ?_
                  refine r_iconst (pc := 160) (0 : Int32) d_X12_kindHere_160 rfl ?_
                  refine r_iconst (pc := 161) (0 : Int32) d_X12_kindHere_161 rfl ?_
                  refine q_cI (f := (oI Sh)) (av := [.ref 102, .int (23 : Int32), .int (15 : Int32), .int (18 : Int32), .int (4 : Int32), .int (0 : Int32), .int (0 : Int32)]) (st := []) (z_runV ck_X12_isWord rfl ml_X12_162 ci_X12_isWord cv_X12_isWord (K_102 h0) (ci := 12) rfl rfl (Nat.le_of_ble_eq_true rfl) d_X12_kindHere_162) (s_X12_isWord hst h0 (by omega)) kp_I (fun q17 _ => ?_)
                  refine r_if_eq (f := (oI Sh)) (pc := 165) 173 d_X12_kindHere_165 (by decide) (fun c18 => ?_) (fun c18 => ?_)
                  · refine r_iconst (pc := 173) (-1 : Int32) d_X12_kindHere_173 rfl ?_
                    exact r_iret (pc := 174) rfl d_X12_kindHere_174
                  · refine r_bipush (pc := 168) (8 : Int32) d_X12_kindHere_168 rfl ?_
                    refine r_goto (pc := 170) 174 d_X12_kindHere_170 (by decide) ?_
                    exact r_iret (pc := 174) rfl d_X12_kindHere_174
                · refine r_bipush (pc := 149) (7 : Int32) d_X12_kindHere_149 rfl ?_
                  exact r_iret (pc := 151) rfl d_X12_kindHere_151
              · refine r_bipush (pc := 128) (6 : Int32) d_X12_kindHere_128 rfl ?_
                exact r_iret (pc := 130) rfl d_X12_kindHere_130
            · refine r_iconst (pc := 107) (5 : Int32) d_X12_kindHere_107 rfl ?_
              exact r_iret (pc := 108) rfl d_X12_kindHere_108
          · refine r_iconst (pc := 88) (4 : Int32) d_X12_kindHere_88 rfl ?_
            exact r_iret (pc := 89) rfl d_X12_kindHere_89
        · refine r_iconst (pc := 71) (3 : Int32) d_X12_kindHere_71 rfl ?_
          exact r_iret (pc := 72) rfl d_X12_kindHere_72
      · refine r_iconst (pc := 53) (2 : Int32) d_X12_kindHere_53 rfl ?_
        exact r_iret (pc := 54) rfl d_X12_kindHere_54
    · refine r_iconst (pc := 34) (1 : Int32) d_X12_kindHere_34 rfl ?_
      exact r_iret (pc := 35) rfl d_X12_kindHere_35
  · refine r_iconst (pc := 15) (0 : Int32) d_X12_kindHere_15 rfl ?_
    exact r_iret (pc := 16) rfl d_X12_kindHere_16
/-! CoveredSignsModel.readsSign -/
theorem d_X12_readsSign_0 : decode (yB m_X12_readsSign) 0 = .ok (.iload_n 1, 1) := by decide +kernel
theorem d_X12_readsSign_1 : decode (yB m_X12_readsSign) 1 = .ok (.iconst 1, 1) := by decide +kernel
theorem d_X12_readsSign_2 : decode (yB m_X12_readsSign) 2 = .ok (.if_icmp .ne 7, 3) := by decide +kernel
theorem d_X12_readsSign_5 : decode (yB m_X12_readsSign) 5 = .ok (.iconst 0, 1) := by decide +kernel
theorem d_X12_readsSign_6 : decode (yB m_X12_readsSign) 6 = .ok (.goto 14, 3) := by decide +kernel
theorem d_X12_readsSign_9 : decode (yB m_X12_readsSign) 9 = .ok (.aload_n 0, 1) := by decide +kernel
theorem d_X12_readsSign_10 : decode (yB m_X12_readsSign) 10 = .ok (.iconst 0, 1) := by decide +kernel
theorem d_X12_readsSign_11 : decode (yB m_X12_readsSign) 11 = .ok (.aload_n 0, 1) := by decide +kernel
theorem d_X12_readsSign_12 : decode (yB m_X12_readsSign) 12 = .ok (.getfield 185, 3) := by decide +kernel
theorem d_X12_readsSign_15 : decode (yB m_X12_readsSign) 15 = .ok (.iconst 1, 1) := by decide +kernel
theorem d_X12_readsSign_16 : decode (yB m_X12_readsSign) 16 = .ok (.isub, 1) := by decide +kernel
theorem d_X12_readsSign_17 : decode (yB m_X12_readsSign) 17 = .ok (.invokevirtual 191, 3) := by decide +kernel
theorem d_X12_readsSign_20 : decode (yB m_X12_readsSign) 20 = .ok (.istore_n 2, 1) := by decide +kernel
theorem d_X12_readsSign_21 : decode (yB m_X12_readsSign) 21 = .ok (.iconst 0, 1) := by decide +kernel
theorem d_X12_readsSign_22 : decode (yB m_X12_readsSign) 22 = .ok (.istore_n 3, 1) := by decide +kernel
theorem d_X12_readsSign_23 : decode (yB m_X12_readsSign) 23 = .ok (.aload_n 0, 1) := by decide +kernel
theorem d_X12_readsSign_24 : decode (yB m_X12_readsSign) 24 = .ok (.getfield 129, 3) := by decide +kernel
theorem d_X12_readsSign_27 : decode (yB m_X12_readsSign) 27 = .ok (.ifCond .eq 4, 3) := by decide +kernel
theorem d_X12_readsSign_30 : decode (yB m_X12_readsSign) 30 = .ok (.return_, 1) := by decide +kernel
theorem d_X12_readsSign_31 : decode (yB m_X12_readsSign) 31 = .ok (.iconst 0, 1) := by decide +kernel
theorem d_X12_readsSign_32 : decode (yB m_X12_readsSign) 32 = .ok (.istore 4, 2) := by decide +kernel
theorem d_X12_readsSign_34 : decode (yB m_X12_readsSign) 34 = .ok (.iload 4, 2) := by decide +kernel
theorem d_X12_readsSign_36 : decode (yB m_X12_readsSign) 36 = .ok (.aload_n 0, 1) := by decide +kernel
theorem d_X12_readsSign_37 : decode (yB m_X12_readsSign) 37 = .ok (.getfield 195, 3) := by decide +kernel
theorem d_X12_readsSign_40 : decode (yB m_X12_readsSign) 40 = .ok (.aload_n 0, 1) := by decide +kernel
theorem d_X12_readsSign_41 : decode (yB m_X12_readsSign) 41 = .ok (.getfield 198, 3) := by decide +kernel
theorem d_X12_readsSign_44 : decode (yB m_X12_readsSign) 44 = .ok (.imul, 1) := by decide +kernel
theorem d_X12_readsSign_45 : decode (yB m_X12_readsSign) 45 = .ok (.if_icmp .ge 91, 3) := by decide +kernel
theorem d_X12_readsSign_48 : decode (yB m_X12_readsSign) 48 = .ok (.iload_n 1, 1) := by decide +kernel
theorem d_X12_readsSign_49 : decode (yB m_X12_readsSign) 49 = .ok (.iconst 1, 1) := by decide +kernel
theorem d_X12_readsSign_50 : decode (yB m_X12_readsSign) 50 = .ok (.if_icmp .eq 86, 3) := by decide +kernel
theorem d_X12_readsSign_53 : decode (yB m_X12_readsSign) 53 = .ok (.aload_n 0, 1) := by decide +kernel
theorem d_X12_readsSign_54 : decode (yB m_X12_readsSign) 54 = .ok (.getfield 195, 3) := by decide +kernel
theorem d_X12_readsSign_57 : decode (yB m_X12_readsSign) 57 = .ok (.iconst 1, 1) := by decide +kernel
theorem d_X12_readsSign_58 : decode (yB m_X12_readsSign) 58 = .ok (.isub, 1) := by decide +kernel
theorem d_X12_readsSign_59 : decode (yB m_X12_readsSign) 59 = .ok (.iload 4, 2) := by decide +kernel
theorem d_X12_readsSign_61 : decode (yB m_X12_readsSign) 61 = .ok (.aload_n 0, 1) := by decide +kernel
theorem d_X12_readsSign_62 : decode (yB m_X12_readsSign) 62 = .ok (.getfield 195, 3) := by decide +kernel
theorem d_X12_readsSign_65 : decode (yB m_X12_readsSign) 65 = .ok (.irem, 1) := by decide +kernel
theorem d_X12_readsSign_66 : decode (yB m_X12_readsSign) 66 = .ok (.isub, 1) := by decide +kernel
theorem d_X12_readsSign_67 : decode (yB m_X12_readsSign) 67 = .ok (.istore 5, 2) := by decide +kernel
theorem d_X12_readsSign_69 : decode (yB m_X12_readsSign) 69 = .ok (.iload_n 1, 1) := by decide +kernel
theorem d_X12_readsSign_70 : decode (yB m_X12_readsSign) 70 = .ok (.iconst 5, 1) := by decide +kernel
theorem d_X12_readsSign_71 : decode (yB m_X12_readsSign) 71 = .ok (.if_icmp .ne 20, 3) := by decide +kernel
theorem d_X12_readsSign_74 : decode (yB m_X12_readsSign) 74 = .ok (.aload_n 0, 1) := by decide +kernel
theorem d_X12_readsSign_75 : decode (yB m_X12_readsSign) 75 = .ok (.getfield 198, 3) := by decide +kernel
theorem d_X12_readsSign_78 : decode (yB m_X12_readsSign) 78 = .ok (.iconst 1, 1) := by decide +kernel
theorem d_X12_readsSign_79 : decode (yB m_X12_readsSign) 79 = .ok (.isub, 1) := by decide +kernel
theorem d_X12_readsSign_80 : decode (yB m_X12_readsSign) 80 = .ok (.iload 4, 2) := by decide +kernel
theorem d_X12_readsSign_82 : decode (yB m_X12_readsSign) 82 = .ok (.aload_n 0, 1) := by decide +kernel
theorem d_X12_readsSign_83 : decode (yB m_X12_readsSign) 83 = .ok (.getfield 195, 3) := by decide +kernel
theorem d_X12_readsSign_86 : decode (yB m_X12_readsSign) 86 = .ok (.idiv, 1) := by decide +kernel
theorem d_X12_readsSign_87 : decode (yB m_X12_readsSign) 87 = .ok (.isub, 1) := by decide +kernel
theorem d_X12_readsSign_88 : decode (yB m_X12_readsSign) 88 = .ok (.goto 10, 3) := by decide +kernel
theorem d_X12_readsSign_91 : decode (yB m_X12_readsSign) 91 = .ok (.iload 4, 2) := by decide +kernel
theorem d_X12_readsSign_93 : decode (yB m_X12_readsSign) 93 = .ok (.aload_n 0, 1) := by decide +kernel
theorem d_X12_readsSign_94 : decode (yB m_X12_readsSign) 94 = .ok (.getfield 195, 3) := by decide +kernel
theorem d_X12_readsSign_97 : decode (yB m_X12_readsSign) 97 = .ok (.idiv, 1) := by decide +kernel
theorem d_X12_readsSign_98 : decode (yB m_X12_readsSign) 98 = .ok (.istore 6, 2) := by decide +kernel
theorem d_X12_readsSign_100 : decode (yB m_X12_readsSign) 100 = .ok (.aload_n 0, 1) := by decide +kernel
theorem d_X12_readsSign_101 : decode (yB m_X12_readsSign) 101 = .ok (.getfield 23, 3) := by decide +kernel
theorem d_X12_readsSign_104 : decode (yB m_X12_readsSign) 104 = .ok (.iload_n 2, 1) := by decide +kernel
theorem d_X12_readsSign_105 : decode (yB m_X12_readsSign) 105 = .ok (.iaload, 1) := by decide +kernel
theorem d_X12_readsSign_106 : decode (yB m_X12_readsSign) 106 = .ok (.iload 4, 2) := by decide +kernel
theorem d_X12_readsSign_108 : decode (yB m_X12_readsSign) 108 = .ok (.ishr, 1) := by decide +kernel
theorem d_X12_readsSign_109 : decode (yB m_X12_readsSign) 109 = .ok (.iconst 1, 1) := by decide +kernel
theorem d_X12_readsSign_110 : decode (yB m_X12_readsSign) 110 = .ok (.iand, 1) := by decide +kernel
theorem d_X12_readsSign_111 : decode (yB m_X12_readsSign) 111 = .ok (.iconst 1, 1) := by decide +kernel
theorem d_X12_readsSign_112 : decode (yB m_X12_readsSign) 112 = .ok (.if_icmp .ne 18, 3) := by decide +kernel
theorem d_X12_readsSign_115 : decode (yB m_X12_readsSign) 115 = .ok (.iload_n 3, 1) := by decide +kernel
theorem d_X12_readsSign_116 : decode (yB m_X12_readsSign) 116 = .ok (.iconst 1, 1) := by decide +kernel
theorem d_X12_readsSign_117 : decode (yB m_X12_readsSign) 117 = .ok (.aload_n 0, 1) := by decide +kernel
theorem d_X12_readsSign_118 : decode (yB m_X12_readsSign) 118 = .ok (.getfield 195, 3) := by decide +kernel
theorem d_X12_readsSign_121 : decode (yB m_X12_readsSign) 121 = .ok (.iload 6, 2) := by decide +kernel
theorem d_X12_readsSign_123 : decode (yB m_X12_readsSign) 123 = .ok (.imul, 1) := by decide +kernel
theorem d_X12_readsSign_124 : decode (yB m_X12_readsSign) 124 = .ok (.iload 5, 2) := by decide +kernel
theorem d_X12_readsSign_126 : decode (yB m_X12_readsSign) 126 = .ok (.iadd, 1) := by decide +kernel
theorem d_X12_readsSign_127 : decode (yB m_X12_readsSign) 127 = .ok (.ishl, 1) := by decide +kernel
theorem d_X12_readsSign_128 : decode (yB m_X12_readsSign) 128 = .ok (.ior, 1) := by decide +kernel
theorem d_X12_readsSign_129 : decode (yB m_X12_readsSign) 129 = .ok (.istore_n 3, 1) := by decide +kernel
theorem d_X12_readsSign_130 : decode (yB m_X12_readsSign) 130 = .ok (.iinc 4 1, 3) := by decide +kernel
theorem d_X12_readsSign_133 : decode (yB m_X12_readsSign) 133 = .ok (.goto (-99), 3) := by decide +kernel
theorem d_X12_readsSign_136 : decode (yB m_X12_readsSign) 136 = .ok (.aload_n 0, 1) := by decide +kernel
theorem d_X12_readsSign_137 : decode (yB m_X12_readsSign) 137 = .ok (.getfield 23, 3) := by decide +kernel
theorem d_X12_readsSign_140 : decode (yB m_X12_readsSign) 140 = .ok (.aload_n 0, 1) := by decide +kernel
theorem d_X12_readsSign_141 : decode (yB m_X12_readsSign) 141 = .ok (.getfield 185, 3) := by decide +kernel
theorem d_X12_readsSign_144 : decode (yB m_X12_readsSign) 144 = .ok (.iload_n 3, 1) := by decide +kernel
theorem d_X12_readsSign_145 : decode (yB m_X12_readsSign) 145 = .ok (.iastore, 1) := by decide +kernel
theorem d_X12_readsSign_146 : decode (yB m_X12_readsSign) 146 = .ok (.aload_n 0, 1) := by decide +kernel
theorem d_X12_readsSign_147 : decode (yB m_X12_readsSign) 147 = .ok (.getfield 29, 3) := by decide +kernel
theorem d_X12_readsSign_150 : decode (yB m_X12_readsSign) 150 = .ok (.aload_n 0, 1) := by decide +kernel
theorem d_X12_readsSign_151 : decode (yB m_X12_readsSign) 151 = .ok (.getfield 185, 3) := by decide +kernel
theorem d_X12_readsSign_154 : decode (yB m_X12_readsSign) 154 = .ok (.iconst (-1), 1) := by decide +kernel
theorem d_X12_readsSign_155 : decode (yB m_X12_readsSign) 155 = .ok (.iastore, 1) := by decide +kernel
theorem d_X12_readsSign_156 : decode (yB m_X12_readsSign) 156 = .ok (.aload_n 0, 1) := by decide +kernel
theorem d_X12_readsSign_157 : decode (yB m_X12_readsSign) 157 = .ok (.dup, 1) := by decide +kernel
theorem d_X12_readsSign_158 : decode (yB m_X12_readsSign) 158 = .ok (.getfield 185, 3) := by decide +kernel
theorem d_X12_readsSign_161 : decode (yB m_X12_readsSign) 161 = .ok (.iconst 1, 1) := by decide +kernel
theorem d_X12_readsSign_162 : decode (yB m_X12_readsSign) 162 = .ok (.iadd, 1) := by decide +kernel
theorem d_X12_readsSign_163 : decode (yB m_X12_readsSign) 163 = .ok (.putfield 185, 3) := by decide +kernel
theorem d_X12_readsSign_166 : decode (yB m_X12_readsSign) 166 = .ok (.return_, 1) := by decide +kernel
def fn_X12_readsSign_136 (v1 : Int32) (v3 : Int32) (D : zD) : Option zD := zck (gI D 102 12) 12 <| zlet (sI D 104 (gI D 102 12).toNatClampNeg v3) fun D6 => zck (gI D6 102 12) 12 <| zlet (sI D6 106 (gI D6 102 12).toNatClampNeg (-1 : Int32)) fun D8 => zlet (sI D8 102 12 ((gI D8 102 12) + (1 : Int32))) fun D9 => (some D9)
def fn_X12_readsSign_98 (v1 : Int32) (k34 : Int32 → Int32 → Int32 → zD → Option zD) (v2 : Int32) (v3 : Int32) (v4 : Int32) (v5 : Int32) (w0 : Int32) (D : zD) : Option zD := zck v2 12 <| (if (((gI D 104 v2.toNatClampNeg) >>> (v4 &&& 31)) &&& (1 : Int32)) = (1 : Int32) then (zlet (v3 ||| ((1 : Int32) <<< ((((gI D 102 10) * w0) + v5) &&& 31))) fun x15 => (k34 v2 x15 (v4 + (1 : Int32)) D)) else ((k34 v2 v3 (v4 + (1 : Int32)) D)))
def fn_X12_readsSign_34 (v1 : Int32) : Nat → Int32 → Int32 → Int32 → zD → Option zD
  | 0, _, _, _, _ => none
  | n + 1, v2, v3, v4, D => (if ((gI D 102 10) * (gI D 102 11)) ≤ v4 then ((fn_X12_readsSign_136 v1 v3 D)) else ((if v1 = (1 : Int32) then ((fn_X12_readsSign_136 v1 v3 D)) else (zdv (gI D 102 10) <| zlet (((gI D 102 10) - (1 : Int32)) - (v4 - v4 / (gI D 102 10) * (gI D 102 10))) fun x11 => (if v1 = (5 : Int32) then (zdv (gI D 102 10) <| (fn_X12_readsSign_98 v1 (fn_X12_readsSign_34 v1 n) v2 v3 v4 x11 (((gI D 102 11) - (1 : Int32)) - (v4 / (gI D 102 10))) D)) else (zdv (gI D 102 10) <| (fn_X12_readsSign_98 v1 (fn_X12_readsSign_34 v1 n) v2 v3 v4 x11 (v4 / (gI D 102 10)) D)))))))
def fn_X12_readsSign_20 (v1 : Int32) (w0 : Int32) (D : zD) : Option zD := (if (gI D 102 5) = 0 then ((fn_X12_readsSign_34 v1 zFU w0 (0 : Int32) (0 : Int32) D)) else ((some D)))
def fn_X12_readsSign (v1 : Int32) (D : zD) : Option zD := (if v1 = (1 : Int32) then ((fn_X12_readsSign_20 v1 (0 : Int32) D)) else ((fn_X12_number (0 : Int32) ((gI D 102 12) - (1 : Int32)) D).bind fun q2 => (fn_X12_readsSign_20 v1 q2.1 q2.2)))
theorem s_X12_readsSign_136 {X : zX} {Sh : zSh} {d : Nat} (hst : (zl X).stackTraces = false) (h0 : zSh0 Sh) (hd : 3 ≤ d) {v1 : Int32} (v3 : Int32) (D : zD)  : Rn X m_X12_readsSign (d + 1) 136 [(0, .ref 102), (3, .int v3)] [] (Sh, D) ((oV Sh) (fn_X12_readsSign_136 v1 v3 D)) := by
  rw [fn_X12_readsSign_136]
  refine r_aload_n (pc := 136) 0 d_X12_readsSign_136 rfl rfl ?_
  refine r_getR (pc := 137) g_X12_23 (K_102 h0) rfl (R_102_18 h0) d_X12_readsSign_137 ?_
  refine r_aload_n (pc := 140) 0 d_X12_readsSign_140 rfl rfl ?_
  refine q_gI (pc := 141) g_X12_185 (K_102 h0) rfl d_X12_readsSign_141 ?_
  refine r_iload_n (pc := 144) 1 d_X12_readsSign_144 rfl rfl ?_
  refine r_ck (f := (oV Sh)) rfl (fun hc5 => ?_)
  refine q_iast (pc := 145) (j := (gI D 102 12).toNatClampNeg) (K_104 h0) hc5 rfl  d_X12_readsSign_145 ?_
  refine r_letD (f := (oV Sh)) (fun D6 => ?_)
  refine r_aload_n (pc := 146) 0 d_X12_readsSign_146 rfl rfl ?_
  refine r_getR (pc := 147) g_X12_29 (K_102 h0) rfl (R_102_20 h0) d_X12_readsSign_147 ?_
  refine r_aload_n (pc := 150) 0 d_X12_readsSign_150 rfl rfl ?_
  refine q_gI (pc := 151) g_X12_185 (K_102 h0) rfl d_X12_readsSign_151 ?_
  refine r_iconst (pc := 154) (-1 : Int32) d_X12_readsSign_154 rfl ?_
  refine r_ck (f := (oV Sh)) rfl (fun hc7 => ?_)
  refine q_iast (pc := 155) (j := (gI D6 102 12).toNatClampNeg) (K_106 h0) hc7 rfl  d_X12_readsSign_155 ?_
  refine r_letD (f := (oV Sh)) (fun D8 => ?_)
  refine r_aload_n (pc := 156) 0 d_X12_readsSign_156 rfl rfl ?_
  refine r_dup (pc := 157) d_X12_readsSign_157 rfl ?_
  refine q_gI (pc := 158) g_X12_185 (K_102 h0) rfl d_X12_readsSign_158 ?_
  refine r_iconst (pc := 161) (1 : Int32) d_X12_readsSign_161 rfl ?_
  refine r_iadd (pc := 162) d_X12_readsSign_162 ?_
  refine r_putI (pc := 163) p_X12_185 (K_102 h0) rfl (Or.inl rfl) d_X12_readsSign_163 ?_
  refine r_letD (f := (oV Sh)) (fun D9 => ?_)
  exact r_vret (pc := 166) rfl d_X12_readsSign_166
theorem s_X12_readsSign_98 {X : zX} {Sh : zSh} {d : Nat} (hst : (zl X).stackTraces = false) (h0 : zSh0 Sh) (hd : 3 ≤ d) {v1 : Int32} (k34 : Int32 → Int32 → Int32 → zD → Option zD) (hk34 : ∀ (v2 : Int32) (v3 : Int32) (v4 : Int32) (D : zD) , Rn X m_X12_readsSign (d + 1) 34 [(0, .ref 102), (1, .int v1), (2, .int v2), (3, .int v3), (4, .int v4)] [] (Sh, D) ((oV Sh) (k34 v2 v3 v4 D))) (v2 : Int32) (v3 : Int32) (v4 : Int32) (v5 : Int32) (w0 : Int32) (D : zD)  : Rn X m_X12_readsSign (d + 1) 98 [(0, .ref 102), (1, .int v1), (2, .int v2), (3, .int v3), (4, .int v4), (5, .int v5)] [.int w0] (Sh, D) ((oV Sh) (fn_X12_readsSign_98 v1 k34 v2 v3 v4 v5 w0 D)) := by
  rw [fn_X12_readsSign_98]
  refine r_istore (pc := 98) (ls' := [(6, .int w0), (0, .ref 102), (1, .int v1), (2, .int v2), (3, .int v3), (4, .int v4), (5, .int v5)]) d_X12_readsSign_98 (Nat.le_of_ble_eq_true rfl) rfl ?_
  refine r_aload_n (pc := 100) 1 d_X12_readsSign_100 rfl rfl ?_
  refine r_getR (pc := 101) g_X12_23 (K_102 h0) rfl (R_102_18 h0) d_X12_readsSign_101 ?_
  refine r_iload_n (pc := 104) 3 d_X12_readsSign_104 rfl rfl ?_
  refine r_ck (f := (oV Sh)) rfl (fun hc13 => ?_)
  refine q_iald (pc := 105) (j := v2.toNatClampNeg) (K_104 h0) hc13 rfl d_X12_readsSign_105 ?_
  refine r_iload (pc := 106) 5 d_X12_readsSign_106 rfl ?_
  refine r_ishr (pc := 108) d_X12_readsSign_108 ?_
  refine r_iconst (pc := 109) (1 : Int32) d_X12_readsSign_109 rfl ?_
  refine r_iand (pc := 110) d_X12_readsSign_110 ?_
  refine r_iconst (pc := 111) (1 : Int32) d_X12_readsSign_111 rfl ?_
  refine r_icmp_ne (f := (oV Sh)) (pc := 112) 130 d_X12_readsSign_112 (by decide) (fun c14 => ?_) (fun c14 => ?_)
  · refine r_iinc (pc := 130) ((v4 + (1 : Int32))) 5 (ls' := [(4, .int (v4 + (1 : Int32))), (6, .int w0), (0, .ref 102), (1, .int v1), (2, .int v2), (3, .int v3), (5, .int v5)]) d_X12_readsSign_130 rfl rfl (Nat.le_of_ble_eq_true rfl) rfl ?_
    refine r_goto (pc := 133) 34 d_X12_readsSign_133 (by decide) ?_
    refine r_pick [2, 3, 4, 5, 0] (ls' := [(0, .ref 102), (1, .int v1), (2, .int v2), (3, .int v3), (4, .int (v4 + (1 : Int32)))]) rfl ?_
    exact hk34 v2 v3 (v4 + (1 : Int32)) D 
  · refine r_iload_n (pc := 115) 4 d_X12_readsSign_115 rfl rfl ?_
    refine r_iconst (pc := 116) (1 : Int32) d_X12_readsSign_116 rfl ?_
    refine r_aload_n (pc := 117) 1 d_X12_readsSign_117 rfl rfl ?_
    refine q_gI (pc := 118) g_X12_195 (K_102 h0) rfl d_X12_readsSign_118 ?_
    refine r_iload (pc := 121) 0 d_X12_readsSign_121 rfl ?_
    refine r_imul (pc := 123) d_X12_readsSign_123 ?_
    refine r_iload (pc := 124) 6 d_X12_readsSign_124 rfl ?_
    refine r_iadd (pc := 126) d_X12_readsSign_126 ?_
    refine r_ishl (pc := 127) d_X12_readsSign_127 ?_
    refine r_ior (pc := 128) d_X12_readsSign_128 ?_
    refine r_leti (f := (oV Sh)) (fun x15 => ?_)
    refine r_istore_n (pc := 129) (ls' := [(3, .int x15), (6, .int w0), (0, .ref 102), (1, .int v1), (2, .int v2), (4, .int v4), (5, .int v5)]) d_X12_readsSign_129 rfl (Nat.le_of_ble_eq_true rfl) rfl ?_
    refine r_iinc (pc := 130) ((v4 + (1 : Int32))) 5 (ls' := [(4, .int (v4 + (1 : Int32))), (3, .int x15), (6, .int w0), (0, .ref 102), (1, .int v1), (2, .int v2), (5, .int v5)]) d_X12_readsSign_130 rfl rfl (Nat.le_of_ble_eq_true rfl) rfl ?_
    refine r_goto (pc := 133) 34 d_X12_readsSign_133 (by decide) ?_
    refine r_pick [3, 4, 5, 1, 0] (ls' := [(0, .ref 102), (1, .int v1), (2, .int v2), (3, .int x15), (4, .int (v4 + (1 : Int32)))]) rfl ?_
    exact hk34 v2 x15 (v4 + (1 : Int32)) D 
theorem s_X12_readsSign_34 {X : zX} {Sh : zSh} {d : Nat} (hst : (zl X).stackTraces = false) (h0 : zSh0 Sh) (hd : 3 ≤ d) {v1 : Int32} : ∀ (n : Nat) (v2 : Int32) (v3 : Int32) (v4 : Int32) (D : zD) , Rn X m_X12_readsSign (d + 1) 34 [(0, .ref 102), (1, .int v1), (2, .int v2), (3, .int v3), (4, .int v4)] [] (Sh, D) ((oV Sh) (fn_X12_readsSign_34 v1 n v2 v3 v4 D)) := by
  intro n
  induction n with
  | zero => intro v2 v3 v4 D; exact Rn_none rfl
  | succ n hk34 =>
    intro v2 v3 v4 D
    rw [fn_X12_readsSign_34]
    refine r_iload (pc := 34) 4 d_X12_readsSign_34 rfl ?_
    refine r_aload_n (pc := 36) 0 d_X12_readsSign_36 rfl rfl ?_
    refine q_gI (pc := 37) g_X12_195 (K_102 h0) rfl d_X12_readsSign_37 ?_
    refine r_aload_n (pc := 40) 0 d_X12_readsSign_40 rfl rfl ?_
    refine q_gI (pc := 41) g_X12_198 (K_102 h0) rfl d_X12_readsSign_41 ?_
    refine r_imul (pc := 44) d_X12_readsSign_44 ?_
    refine r_icmp_ge (f := (oV Sh)) (pc := 45) 136 d_X12_readsSign_45 (by decide) (fun c4 => ?_) (fun c4 => ?_)
    · refine r_pick [0, 3] (ls' := [(0, .ref 102), (3, .int v3)]) rfl ?_
      exact s_X12_readsSign_136 hst h0 hd v3 D
    · refine r_iload_n (pc := 48) 1 d_X12_readsSign_48 rfl rfl ?_
      refine r_iconst (pc := 49) (1 : Int32) d_X12_readsSign_49 rfl ?_
      refine r_icmp_eq (f := (oV Sh)) (pc := 50) 136 d_X12_readsSign_50 (by decide) (fun c10 => ?_) (fun c10 => ?_)
      · refine r_pick [0, 3] (ls' := [(0, .ref 102), (3, .int v3)]) rfl ?_
        exact s_X12_readsSign_136 hst h0 hd v3 D
      · refine r_aload_n (pc := 53) 0 d_X12_readsSign_53 rfl rfl ?_
        refine q_gI (pc := 54) g_X12_195 (K_102 h0) rfl d_X12_readsSign_54 ?_
        refine r_iconst (pc := 57) (1 : Int32) d_X12_readsSign_57 rfl ?_
        refine r_isub (pc := 58) d_X12_readsSign_58 ?_
        refine r_iload (pc := 59) 4 d_X12_readsSign_59 rfl ?_
        refine r_aload_n (pc := 61) 0 d_X12_readsSign_61 rfl rfl ?_
        refine q_gI (pc := 62) g_X12_195 (K_102 h0) rfl d_X12_readsSign_62 ?_
        refine r_irem (f := (oV Sh)) (pc := 65) d_X12_readsSign_65 rfl ?_
        refine r_isub (pc := 66) d_X12_readsSign_66 ?_
        refine r_leti (f := (oV Sh)) (fun x11 => ?_)
        refine r_istore (pc := 67) (ls' := [(5, .int x11), (0, .ref 102), (1, .int v1), (2, .int v2), (3, .int v3), (4, .int v4)]) d_X12_readsSign_67 (Nat.le_of_ble_eq_true rfl) rfl ?_
        refine r_iload_n (pc := 69) 2 d_X12_readsSign_69 rfl rfl ?_
        refine r_iconst (pc := 70) (5 : Int32) d_X12_readsSign_70 rfl ?_
        refine r_icmp_ne (f := (oV Sh)) (pc := 71) 91 d_X12_readsSign_71 (by decide) (fun c12 => ?_) (fun c12 => ?_)
        · refine r_iload (pc := 91) 5 d_X12_readsSign_91 rfl ?_
          refine r_aload_n (pc := 93) 1 d_X12_readsSign_93 rfl rfl ?_
          refine q_gI (pc := 94) g_X12_195 (K_102 h0) rfl d_X12_readsSign_94 ?_
          refine r_idiv (f := (oV Sh)) (pc := 97) d_X12_readsSign_97 rfl ?_
          refine r_pick [1, 2, 3, 4, 5, 0] (ls' := [(0, .ref 102), (1, .int v1), (2, .int v2), (3, .int v3), (4, .int v4), (5, .int x11)]) rfl ?_
          exact s_X12_readsSign_98 hst h0 hd (fn_X12_readsSign_34 v1 n) hk34 v2 v3 v4 x11 (v4 / (gI D 102 10)) D
        · refine r_aload_n (pc := 74) 1 d_X12_readsSign_74 rfl rfl ?_
          refine q_gI (pc := 75) g_X12_198 (K_102 h0) rfl d_X12_readsSign_75 ?_
          refine r_iconst (pc := 78) (1 : Int32) d_X12_readsSign_78 rfl ?_
          refine r_isub (pc := 79) d_X12_readsSign_79 ?_
          refine r_iload (pc := 80) 5 d_X12_readsSign_80 rfl ?_
          refine r_aload_n (pc := 82) 1 d_X12_readsSign_82 rfl rfl ?_
          refine q_gI (pc := 83) g_X12_195 (K_102 h0) rfl d_X12_readsSign_83 ?_
          refine r_idiv (f := (oV Sh)) (pc := 86) d_X12_readsSign_86 rfl ?_
          refine r_isub (pc := 87) d_X12_readsSign_87 ?_
          refine r_goto (pc := 88) 98 d_X12_readsSign_88 (by decide) ?_
          refine r_pick [1, 2, 3, 4, 5, 0] (ls' := [(0, .ref 102), (1, .int v1), (2, .int v2), (3, .int v3), (4, .int v4), (5, .int x11)]) rfl ?_
          exact s_X12_readsSign_98 hst h0 hd (fn_X12_readsSign_34 v1 n) hk34 v2 v3 v4 x11 (((gI D 102 11) - (1 : Int32)) - (v4 / (gI D 102 10))) D
theorem s_X12_readsSign_20 {X : zX} {Sh : zSh} {d : Nat} (hst : (zl X).stackTraces = false) (h0 : zSh0 Sh) (hd : 3 ≤ d) {v1 : Int32} (w0 : Int32) (D : zD)  : Rn X m_X12_readsSign (d + 1) 20 [(0, .ref 102), (1, .int v1)] [.int w0] (Sh, D) ((oV Sh) (fn_X12_readsSign_20 v1 w0 D)) := by
  rw [fn_X12_readsSign_20]
  refine r_istore_n (pc := 20) (ls' := [(2, .int w0), (0, .ref 102), (1, .int v1)]) d_X12_readsSign_20 rfl (Nat.le_of_ble_eq_true rfl) rfl ?_
  refine r_iconst (pc := 21) (0 : Int32) d_X12_readsSign_21 rfl ?_
  refine r_istore_n (pc := 22) (ls' := [(3, .int (0 : Int32)), (2, .int w0), (0, .ref 102), (1, .int v1)]) d_X12_readsSign_22 rfl (Nat.le_of_ble_eq_true rfl) rfl ?_
  refine r_aload_n (pc := 23) 2 d_X12_readsSign_23 rfl rfl ?_
  refine q_gI (pc := 24) g_X12_129 (K_102 h0) rfl d_X12_readsSign_24 ?_
  refine r_if_eq (f := (oV Sh)) (pc := 27) 31 d_X12_readsSign_27 (by decide) (fun c3 => ?_) (fun c3 => ?_)
  · refine r_iconst (pc := 31) (0 : Int32) d_X12_readsSign_31 rfl ?_
    refine r_istore (pc := 32) (ls' := [(4, .int (0 : Int32)), (3, .int (0 : Int32)), (2, .int w0), (0, .ref 102), (1, .int v1)]) d_X12_readsSign_32 (Nat.le_of_ble_eq_true rfl) rfl ?_
    refine r_pick [3, 4, 2, 1, 0] (ls' := [(0, .ref 102), (1, .int v1), (2, .int w0), (3, .int (0 : Int32)), (4, .int (0 : Int32))]) rfl ?_
    exact s_X12_readsSign_34 hst h0 hd zFU  w0 (0 : Int32) (0 : Int32) D
  · exact r_vret (pc := 30) rfl d_X12_readsSign_30
theorem s_X12_readsSign {X : zX} {Sh : zSh} {d : Nat} (hst : (zl X).stackTraces = false) (h0 : zSh0 Sh) (hd : 4 ≤ d) {v1 : Int32} {D : zD} : Sd X m_X12_readsSign d [.ref 102, .int v1] (Sh, D) ((oV Sh) (fn_X12_readsSign v1 D)) := by
  obtain ⟨d, rfl⟩ : ∃ e, d = e + 1 := ⟨d - 1, by omega⟩
  replace hd : 3 ≤ d := by omega
  refine z_body ck_X12_readsSign rfl (Nat.le_of_ble_eq_true rfl) rfl hst ?_
  rw [fn_X12_readsSign]
  show Rn X m_X12_readsSign (d + 1) 0 [(0, .ref 102), (1, .int v1)] [] (Sh, D) _
  refine r_iload_n (pc := 0) 1 d_X12_readsSign_0 rfl rfl ?_
  refine r_iconst (pc := 1) (1 : Int32) d_X12_readsSign_1 rfl ?_
  refine r_icmp_ne (f := (oV Sh)) (pc := 2) 9 d_X12_readsSign_2 (by decide) (fun c1 => ?_) (fun c1 => ?_)
  · refine r_aload_n (pc := 9) 0 d_X12_readsSign_9 rfl rfl ?_
    refine r_iconst (pc := 10) (0 : Int32) d_X12_readsSign_10 rfl ?_
    refine r_aload_n (pc := 11) 0 d_X12_readsSign_11 rfl rfl ?_
    refine q_gI (pc := 12) g_X12_185 (K_102 h0) rfl d_X12_readsSign_12 ?_
    refine r_iconst (pc := 15) (1 : Int32) d_X12_readsSign_15 rfl ?_
    refine r_isub (pc := 16) d_X12_readsSign_16 ?_
    refine q_cI (f := (oV Sh)) (av := [.ref 102, .int (0 : Int32), .int ((gI D 102 12) - (1 : Int32))]) (st := []) (z_runV ck_X12_number rfl ml_X12_191 ci_X12_number cv_X12_number (K_102 h0) (ci := 12) rfl rfl (Nat.le_of_ble_eq_true rfl) d_X12_readsSign_17) (s_X12_number hst h0 (by omega)) kp_V (fun q2 _ => ?_)
    refine r_pick [0, 1] (ls' := [(0, .ref 102), (1, .int v1)]) rfl ?_
    exact s_X12_readsSign_20 hst h0 hd q2.1 q2.2
  · refine r_iconst (pc := 5) (0 : Int32) d_X12_readsSign_5 rfl ?_
    refine r_goto (pc := 6) 20 d_X12_readsSign_6 (by decide) ?_
    refine r_pick [0, 1] (ls' := [(0, .ref 102), (1, .int v1)]) rfl ?_
    exact s_X12_readsSign_20 hst h0 hd (0 : Int32) D
/-! CoveredSignsModel.readsStroke -/
theorem d_X12_readsStroke_0 : decode (yB m_X12_readsStroke) 0 = .ok (.aload_n 0, 1) := by decide +kernel
theorem d_X12_readsStroke_1 : decode (yB m_X12_readsStroke) 1 = .ok (.iconst 0, 1) := by decide +kernel
theorem d_X12_readsStroke_2 : decode (yB m_X12_readsStroke) 2 = .ok (.aload_n 0, 1) := by decide +kernel
theorem d_X12_readsStroke_3 : decode (yB m_X12_readsStroke) 3 = .ok (.getfield 195, 3) := by decide +kernel
theorem d_X12_readsStroke_6 : decode (yB m_X12_readsStroke) 6 = .ok (.iconst 1, 1) := by decide +kernel
theorem d_X12_readsStroke_7 : decode (yB m_X12_readsStroke) 7 = .ok (.isub, 1) := by decide +kernel
theorem d_X12_readsStroke_8 : decode (yB m_X12_readsStroke) 8 = .ok (.invokevirtual 191, 3) := by decide +kernel
theorem d_X12_readsStroke_11 : decode (yB m_X12_readsStroke) 11 = .ok (.istore_n 2, 1) := by decide +kernel
theorem d_X12_readsStroke_12 : decode (yB m_X12_readsStroke) 12 = .ok (.aload_n 0, 1) := by decide +kernel
theorem d_X12_readsStroke_13 : decode (yB m_X12_readsStroke) 13 = .ok (.iconst 0, 1) := by decide +kernel
theorem d_X12_readsStroke_14 : decode (yB m_X12_readsStroke) 14 = .ok (.aload_n 0, 1) := by decide +kernel
theorem d_X12_readsStroke_15 : decode (yB m_X12_readsStroke) 15 = .ok (.getfield 198, 3) := by decide +kernel
theorem d_X12_readsStroke_18 : decode (yB m_X12_readsStroke) 18 = .ok (.iconst 1, 1) := by decide +kernel
theorem d_X12_readsStroke_19 : decode (yB m_X12_readsStroke) 19 = .ok (.isub, 1) := by decide +kernel
theorem d_X12_readsStroke_20 : decode (yB m_X12_readsStroke) 20 = .ok (.invokevirtual 191, 3) := by decide +kernel
theorem d_X12_readsStroke_23 : decode (yB m_X12_readsStroke) 23 = .ok (.istore_n 3, 1) := by decide +kernel
theorem d_X12_readsStroke_24 : decode (yB m_X12_readsStroke) 24 = .ok (.iload_n 1, 1) := by decide +kernel
theorem d_X12_readsStroke_25 : decode (yB m_X12_readsStroke) 25 = .ok (.iconst 4, 1) := by decide +kernel
theorem d_X12_readsStroke_26 : decode (yB m_X12_readsStroke) 26 = .ok (.if_icmp .ne 7, 3) := by decide +kernel
theorem d_X12_readsStroke_29 : decode (yB m_X12_readsStroke) 29 = .ok (.iconst 1, 1) := by decide +kernel
theorem d_X12_readsStroke_30 : decode (yB m_X12_readsStroke) 30 = .ok (.goto 28, 3) := by decide +kernel
theorem d_X12_readsStroke_33 : decode (yB m_X12_readsStroke) 33 = .ok (.aload_n 0, 1) := by decide +kernel
theorem d_X12_readsStroke_34 : decode (yB m_X12_readsStroke) 34 = .ok (.iconst 1, 1) := by decide +kernel
theorem d_X12_readsStroke_35 : decode (yB m_X12_readsStroke) 35 = .ok (.iload_n 1, 1) := by decide +kernel
theorem d_X12_readsStroke_36 : decode (yB m_X12_readsStroke) 36 = .ok (.iconst 2, 1) := by decide +kernel
theorem d_X12_readsStroke_37 : decode (yB m_X12_readsStroke) 37 = .ok (.if_icmp .ne 12, 3) := by decide +kernel
theorem d_X12_readsStroke_40 : decode (yB m_X12_readsStroke) 40 = .ok (.aload_n 0, 1) := by decide +kernel
theorem d_X12_readsStroke_41 : decode (yB m_X12_readsStroke) 41 = .ok (.getfield 195, 3) := by decide +kernel
theorem d_X12_readsStroke_44 : decode (yB m_X12_readsStroke) 44 = .ok (.iload_n 2, 1) := by decide +kernel
theorem d_X12_readsStroke_45 : decode (yB m_X12_readsStroke) 45 = .ok (.isub, 1) := by decide +kernel
theorem d_X12_readsStroke_46 : decode (yB m_X12_readsStroke) 46 = .ok (.goto 9, 3) := by decide +kernel
theorem d_X12_readsStroke_49 : decode (yB m_X12_readsStroke) 49 = .ok (.aload_n 0, 1) := by decide +kernel
theorem d_X12_readsStroke_50 : decode (yB m_X12_readsStroke) 50 = .ok (.getfield 198, 3) := by decide +kernel
theorem d_X12_readsStroke_53 : decode (yB m_X12_readsStroke) 53 = .ok (.iload_n 3, 1) := by decide +kernel
theorem d_X12_readsStroke_54 : decode (yB m_X12_readsStroke) 54 = .ok (.isub, 1) := by decide +kernel
theorem d_X12_readsStroke_55 : decode (yB m_X12_readsStroke) 55 = .ok (.invokevirtual 191, 3) := by decide +kernel
theorem d_X12_readsStroke_58 : decode (yB m_X12_readsStroke) 58 = .ok (.istore 4, 2) := by decide +kernel
theorem d_X12_readsStroke_60 : decode (yB m_X12_readsStroke) 60 = .ok (.iconst 0, 1) := by decide +kernel
theorem d_X12_readsStroke_61 : decode (yB m_X12_readsStroke) 61 = .ok (.istore 5, 2) := by decide +kernel
theorem d_X12_readsStroke_63 : decode (yB m_X12_readsStroke) 63 = .ok (.iload 5, 2) := by decide +kernel
theorem d_X12_readsStroke_65 : decode (yB m_X12_readsStroke) 65 = .ok (.iload 4, 2) := by decide +kernel
theorem d_X12_readsStroke_67 : decode (yB m_X12_readsStroke) 67 = .ok (.if_icmp .ge 92, 3) := by decide +kernel
theorem d_X12_readsStroke_70 : decode (yB m_X12_readsStroke) 70 = .ok (.aload_n 0, 1) := by decide +kernel
theorem d_X12_readsStroke_71 : decode (yB m_X12_readsStroke) 71 = .ok (.getfield 129, 3) := by decide +kernel
theorem d_X12_readsStroke_74 : decode (yB m_X12_readsStroke) 74 = .ok (.ifCond .ne 85, 3) := by decide +kernel
theorem d_X12_readsStroke_77 : decode (yB m_X12_readsStroke) 77 = .ok (.iconst 1, 1) := by decide +kernel
theorem d_X12_readsStroke_78 : decode (yB m_X12_readsStroke) 78 = .ok (.iload_n 1, 1) := by decide +kernel
theorem d_X12_readsStroke_79 : decode (yB m_X12_readsStroke) 79 = .ok (.iconst 3, 1) := by decide +kernel
theorem d_X12_readsStroke_80 : decode (yB m_X12_readsStroke) 80 = .ok (.if_icmp .ne 17, 3) := by decide +kernel
theorem d_X12_readsStroke_83 : decode (yB m_X12_readsStroke) 83 = .ok (.aload_n 0, 1) := by decide +kernel
theorem d_X12_readsStroke_84 : decode (yB m_X12_readsStroke) 84 = .ok (.getfield 195, 3) := by decide +kernel
theorem d_X12_readsStroke_87 : decode (yB m_X12_readsStroke) 87 = .ok (.iload_n 3, 1) := by decide +kernel
theorem d_X12_readsStroke_88 : decode (yB m_X12_readsStroke) 88 = .ok (.iload 5, 2) := by decide +kernel
theorem d_X12_readsStroke_90 : decode (yB m_X12_readsStroke) 90 = .ok (.iadd, 1) := by decide +kernel
theorem d_X12_readsStroke_91 : decode (yB m_X12_readsStroke) 91 = .ok (.imul, 1) := by decide +kernel
theorem d_X12_readsStroke_92 : decode (yB m_X12_readsStroke) 92 = .ok (.iload_n 2, 1) := by decide +kernel
theorem d_X12_readsStroke_93 : decode (yB m_X12_readsStroke) 93 = .ok (.iadd, 1) := by decide +kernel
theorem d_X12_readsStroke_94 : decode (yB m_X12_readsStroke) 94 = .ok (.goto 14, 3) := by decide +kernel
theorem d_X12_readsStroke_97 : decode (yB m_X12_readsStroke) 97 = .ok (.aload_n 0, 1) := by decide +kernel
theorem d_X12_readsStroke_98 : decode (yB m_X12_readsStroke) 98 = .ok (.getfield 195, 3) := by decide +kernel
theorem d_X12_readsStroke_101 : decode (yB m_X12_readsStroke) 101 = .ok (.iload_n 3, 1) := by decide +kernel
theorem d_X12_readsStroke_102 : decode (yB m_X12_readsStroke) 102 = .ok (.imul, 1) := by decide +kernel
theorem d_X12_readsStroke_103 : decode (yB m_X12_readsStroke) 103 = .ok (.iload_n 2, 1) := by decide +kernel
theorem d_X12_readsStroke_104 : decode (yB m_X12_readsStroke) 104 = .ok (.iadd, 1) := by decide +kernel
theorem d_X12_readsStroke_105 : decode (yB m_X12_readsStroke) 105 = .ok (.iload 5, 2) := by decide +kernel
theorem d_X12_readsStroke_107 : decode (yB m_X12_readsStroke) 107 = .ok (.iadd, 1) := by decide +kernel
theorem d_X12_readsStroke_108 : decode (yB m_X12_readsStroke) 108 = .ok (.ishl, 1) := by decide +kernel
theorem d_X12_readsStroke_109 : decode (yB m_X12_readsStroke) 109 = .ok (.istore 6, 2) := by decide +kernel
theorem d_X12_readsStroke_111 : decode (yB m_X12_readsStroke) 111 = .ok (.iload_n 1, 1) := by decide +kernel
theorem d_X12_readsStroke_112 : decode (yB m_X12_readsStroke) 112 = .ok (.iconst 4, 1) := by decide +kernel
theorem d_X12_readsStroke_113 : decode (yB m_X12_readsStroke) 113 = .ok (.if_icmp .ne 24, 3) := by decide +kernel
theorem d_X12_readsStroke_116 : decode (yB m_X12_readsStroke) 116 = .ok (.aload_n 0, 1) := by decide +kernel
theorem d_X12_readsStroke_117 : decode (yB m_X12_readsStroke) 117 = .ok (.getfield 23, 3) := by decide +kernel
theorem d_X12_readsStroke_120 : decode (yB m_X12_readsStroke) 120 = .ok (.aload_n 0, 1) := by decide +kernel
theorem d_X12_readsStroke_121 : decode (yB m_X12_readsStroke) 121 = .ok (.getfield 185, 3) := by decide +kernel
theorem d_X12_readsStroke_124 : decode (yB m_X12_readsStroke) 124 = .ok (.iconst 1, 1) := by decide +kernel
theorem d_X12_readsStroke_125 : decode (yB m_X12_readsStroke) 125 = .ok (.isub, 1) := by decide +kernel
theorem d_X12_readsStroke_126 : decode (yB m_X12_readsStroke) 126 = .ok (.dup2, 1) := by decide +kernel
theorem d_X12_readsStroke_127 : decode (yB m_X12_readsStroke) 127 = .ok (.iaload, 1) := by decide +kernel
theorem d_X12_readsStroke_128 : decode (yB m_X12_readsStroke) 128 = .ok (.iload 6, 2) := by decide +kernel
theorem d_X12_readsStroke_130 : decode (yB m_X12_readsStroke) 130 = .ok (.iconst (-1), 1) := by decide +kernel
theorem d_X12_readsStroke_131 : decode (yB m_X12_readsStroke) 131 = .ok (.ixor, 1) := by decide +kernel
theorem d_X12_readsStroke_132 : decode (yB m_X12_readsStroke) 132 = .ok (.iand, 1) := by decide +kernel
theorem d_X12_readsStroke_133 : decode (yB m_X12_readsStroke) 133 = .ok (.iastore, 1) := by decide +kernel
theorem d_X12_readsStroke_134 : decode (yB m_X12_readsStroke) 134 = .ok (.goto 19, 3) := by decide +kernel
theorem d_X12_readsStroke_137 : decode (yB m_X12_readsStroke) 137 = .ok (.aload_n 0, 1) := by decide +kernel
theorem d_X12_readsStroke_138 : decode (yB m_X12_readsStroke) 138 = .ok (.getfield 23, 3) := by decide +kernel
theorem d_X12_readsStroke_141 : decode (yB m_X12_readsStroke) 141 = .ok (.aload_n 0, 1) := by decide +kernel
theorem d_X12_readsStroke_142 : decode (yB m_X12_readsStroke) 142 = .ok (.getfield 185, 3) := by decide +kernel
theorem d_X12_readsStroke_145 : decode (yB m_X12_readsStroke) 145 = .ok (.iconst 1, 1) := by decide +kernel
theorem d_X12_readsStroke_146 : decode (yB m_X12_readsStroke) 146 = .ok (.isub, 1) := by decide +kernel
theorem d_X12_readsStroke_147 : decode (yB m_X12_readsStroke) 147 = .ok (.dup2, 1) := by decide +kernel
theorem d_X12_readsStroke_148 : decode (yB m_X12_readsStroke) 148 = .ok (.iaload, 1) := by decide +kernel
theorem d_X12_readsStroke_149 : decode (yB m_X12_readsStroke) 149 = .ok (.iload 6, 2) := by decide +kernel
theorem d_X12_readsStroke_151 : decode (yB m_X12_readsStroke) 151 = .ok (.ior, 1) := by decide +kernel
theorem d_X12_readsStroke_152 : decode (yB m_X12_readsStroke) 152 = .ok (.iastore, 1) := by decide +kernel
theorem d_X12_readsStroke_153 : decode (yB m_X12_readsStroke) 153 = .ok (.iinc 5 1, 3) := by decide +kernel
theorem d_X12_readsStroke_156 : decode (yB m_X12_readsStroke) 156 = .ok (.goto (-93), 3) := by decide +kernel
theorem d_X12_readsStroke_159 : decode (yB m_X12_readsStroke) 159 = .ok (.return_, 1) := by decide +kernel
def fn_X12_readsStroke_108 (v1 : Int32) (k63 : Int32 → Int32 → Int32 → Int32 → zD → Option zD) (v2 : Int32) (v3 : Int32) (v4 : Int32) (v5 : Int32) (w0 : Int32) (w1 : Int32) (D : zD) : Option zD := zlet (w0 <<< (w1 &&& 31)) fun x9 => (if v1 = (4 : Int32) then (zck ((gI D 102 12) - (1 : Int32)) 12 <| zck ((gI D 102 12) - (1 : Int32)) 12 <| zlet (sI D 104 ((gI D 102 12) - (1 : Int32)).toNatClampNeg ((gI D 104 ((gI D 102 12) - (1 : Int32)).toNatClampNeg) &&& (x9 ^^^ (-1 : Int32)))) fun D16 => (k63 v2 v3 v4 (v5 + (1 : Int32)) D16)) else (zck ((gI D 102 12) - (1 : Int32)) 12 <| zck ((gI D 102 12) - (1 : Int32)) 12 <| zlet (sI D 104 ((gI D 102 12) - (1 : Int32)).toNatClampNeg ((gI D 104 ((gI D 102 12) - (1 : Int32)).toNatClampNeg) ||| x9)) fun D13 => (k63 v2 v3 v4 (v5 + (1 : Int32)) D13)))
def fn_X12_readsStroke_63 (v1 : Int32) : Nat → Int32 → Int32 → Int32 → Int32 → zD → Option zD
  | 0, _, _, _, _, _ => none
  | n + 1, v2, v3, v4, v5, D => (if v4 ≤ v5 then ((some D)) else ((if (gI D 102 5) = 0 then ((if v1 = (3 : Int32) then ((fn_X12_readsStroke_108 v1 (fn_X12_readsStroke_63 v1 n) v2 v3 v4 v5 (1 : Int32) (((gI D 102 10) * (v3 + v5)) + v2) D)) else ((fn_X12_readsStroke_108 v1 (fn_X12_readsStroke_63 v1 n) v2 v3 v4 v5 (1 : Int32) ((((gI D 102 10) * v3) + v2) + v5) D)))) else ((some D)))))
def fn_X12_readsStroke (v1 : Int32) (D : zD) : Option zD := (fn_X12_number (0 : Int32) ((gI D 102 10) - (1 : Int32)) D).bind fun q1 => (fn_X12_number (0 : Int32) ((gI q1.2 102 11) - (1 : Int32)) q1.2).bind fun q2 => (if v1 = (4 : Int32) then ((fn_X12_readsStroke_63 v1 zFU q1.1 q2.1 (1 : Int32) (0 : Int32) q2.2)) else ((if v1 = (2 : Int32) then ((fn_X12_number (1 : Int32) ((gI q2.2 102 10) - q1.1) q2.2).bind fun q17 => (fn_X12_readsStroke_63 v1 zFU q1.1 q2.1 q17.1 (0 : Int32) q17.2)) else ((fn_X12_number (1 : Int32) ((gI q2.2 102 11) - q2.1) q2.2).bind fun q5 => (fn_X12_readsStroke_63 v1 zFU q1.1 q2.1 q5.1 (0 : Int32) q5.2)))))
theorem s_X12_readsStroke_108 {X : zX} {Sh : zSh} {d : Nat} (hst : (zl X).stackTraces = false) (h0 : zSh0 Sh) (hd : 3 ≤ d) {v1 : Int32} (k63 : Int32 → Int32 → Int32 → Int32 → zD → Option zD) (hk63 : ∀ (v2 : Int32) (v3 : Int32) (v4 : Int32) (v5 : Int32) (D : zD) , Rn X m_X12_readsStroke (d + 1) 63 [(0, .ref 102), (1, .int v1), (2, .int v2), (3, .int v3), (4, .int v4), (5, .int v5)] [] (Sh, D) ((oV Sh) (k63 v2 v3 v4 v5 D))) (v2 : Int32) (v3 : Int32) (v4 : Int32) (v5 : Int32) (w0 : Int32) (w1 : Int32) (D : zD)  : Rn X m_X12_readsStroke (d + 1) 108 [(0, .ref 102), (1, .int v1), (2, .int v2), (3, .int v3), (4, .int v4), (5, .int v5)] [.int w1, .int w0] (Sh, D) ((oV Sh) (fn_X12_readsStroke_108 v1 k63 v2 v3 v4 v5 w0 w1 D)) := by
  rw [fn_X12_readsStroke_108]
  refine r_ishl (pc := 108) d_X12_readsStroke_108 ?_
  refine r_leti (f := (oV Sh)) (fun x9 => ?_)
  refine r_istore (pc := 109) (ls' := [(6, .int x9), (0, .ref 102), (1, .int v1), (2, .int v2), (3, .int v3), (4, .int v4), (5, .int v5)]) d_X12_readsStroke_109 (Nat.le_of_ble_eq_true rfl) rfl ?_
  refine r_iload_n (pc := 111) 2 d_X12_readsStroke_111 rfl rfl ?_
  refine r_iconst (pc := 112) (4 : Int32) d_X12_readsStroke_112 rfl ?_
  refine r_icmp_ne (f := (oV Sh)) (pc := 113) 137 d_X12_readsStroke_113 (by decide) (fun c10 => ?_) (fun c10 => ?_)
  · refine r_aload_n (pc := 137) 1 d_X12_readsStroke_137 rfl rfl ?_
    refine r_getR (pc := 138) g_X12_23 (K_102 h0) rfl (R_102_18 h0) d_X12_readsStroke_138 ?_
    refine r_aload_n (pc := 141) 1 d_X12_readsStroke_141 rfl rfl ?_
    refine q_gI (pc := 142) g_X12_185 (K_102 h0) rfl d_X12_readsStroke_142 ?_
    refine r_iconst (pc := 145) (1 : Int32) d_X12_readsStroke_145 rfl ?_
    refine r_isub (pc := 146) d_X12_readsStroke_146 ?_
    refine r_dup2 (pc := 147) d_X12_readsStroke_147 rfl rfl ?_
    refine r_ck (f := (oV Sh)) rfl (fun hc11 => ?_)
    refine q_iald (pc := 148) (j := ((gI D 102 12) - (1 : Int32)).toNatClampNeg) (K_104 h0) hc11 rfl d_X12_readsStroke_148 ?_
    refine r_iload (pc := 149) 0 d_X12_readsStroke_149 rfl ?_
    refine r_ior (pc := 151) d_X12_readsStroke_151 ?_
    refine r_ck (f := (oV Sh)) rfl (fun hc12 => ?_)
    refine q_iast (pc := 152) (j := ((gI D 102 12) - (1 : Int32)).toNatClampNeg) (K_104 h0) hc12 rfl  d_X12_readsStroke_152 ?_
    refine r_letD (f := (oV Sh)) (fun D13 => ?_)
    refine r_iinc (pc := 153) ((v5 + (1 : Int32))) 6 (ls' := [(5, .int (v5 + (1 : Int32))), (6, .int x9), (0, .ref 102), (1, .int v1), (2, .int v2), (3, .int v3), (4, .int v4)]) d_X12_readsStroke_153 rfl rfl (Nat.le_of_ble_eq_true rfl) rfl ?_
    refine r_goto (pc := 156) 63 d_X12_readsStroke_156 (by decide) ?_
    refine r_pick [2, 3, 4, 5, 6, 0] (ls' := [(0, .ref 102), (1, .int v1), (2, .int v2), (3, .int v3), (4, .int v4), (5, .int (v5 + (1 : Int32)))]) rfl ?_
    exact hk63 v2 v3 v4 (v5 + (1 : Int32)) D13 
  · refine r_aload_n (pc := 116) 1 d_X12_readsStroke_116 rfl rfl ?_
    refine r_getR (pc := 117) g_X12_23 (K_102 h0) rfl (R_102_18 h0) d_X12_readsStroke_117 ?_
    refine r_aload_n (pc := 120) 1 d_X12_readsStroke_120 rfl rfl ?_
    refine q_gI (pc := 121) g_X12_185 (K_102 h0) rfl d_X12_readsStroke_121 ?_
    refine r_iconst (pc := 124) (1 : Int32) d_X12_readsStroke_124 rfl ?_
    refine r_isub (pc := 125) d_X12_readsStroke_125 ?_
    refine r_dup2 (pc := 126) d_X12_readsStroke_126 rfl rfl ?_
    refine r_ck (f := (oV Sh)) rfl (fun hc14 => ?_)
    refine q_iald (pc := 127) (j := ((gI D 102 12) - (1 : Int32)).toNatClampNeg) (K_104 h0) hc14 rfl d_X12_readsStroke_127 ?_
    refine r_iload (pc := 128) 0 d_X12_readsStroke_128 rfl ?_
    refine r_iconst (pc := 130) (-1 : Int32) d_X12_readsStroke_130 rfl ?_
    refine r_ixor (pc := 131) d_X12_readsStroke_131 ?_
    refine r_iand (pc := 132) d_X12_readsStroke_132 ?_
    refine r_ck (f := (oV Sh)) rfl (fun hc15 => ?_)
    refine q_iast (pc := 133) (j := ((gI D 102 12) - (1 : Int32)).toNatClampNeg) (K_104 h0) hc15 rfl  d_X12_readsStroke_133 ?_
    refine r_letD (f := (oV Sh)) (fun D16 => ?_)
    refine r_goto (pc := 134) 153 d_X12_readsStroke_134 (by decide) ?_
    refine r_iinc (pc := 153) ((v5 + (1 : Int32))) 6 (ls' := [(5, .int (v5 + (1 : Int32))), (6, .int x9), (0, .ref 102), (1, .int v1), (2, .int v2), (3, .int v3), (4, .int v4)]) d_X12_readsStroke_153 rfl rfl (Nat.le_of_ble_eq_true rfl) rfl ?_
    refine r_goto (pc := 156) 63 d_X12_readsStroke_156 (by decide) ?_
    refine r_pick [2, 3, 4, 5, 6, 0] (ls' := [(0, .ref 102), (1, .int v1), (2, .int v2), (3, .int v3), (4, .int v4), (5, .int (v5 + (1 : Int32)))]) rfl ?_
    exact hk63 v2 v3 v4 (v5 + (1 : Int32)) D16 
theorem s_X12_readsStroke_63 {X : zX} {Sh : zSh} {d : Nat} (hst : (zl X).stackTraces = false) (h0 : zSh0 Sh) (hd : 3 ≤ d) {v1 : Int32} : ∀ (n : Nat) (v2 : Int32) (v3 : Int32) (v4 : Int32) (v5 : Int32) (D : zD) , Rn X m_X12_readsStroke (d + 1) 63 [(0, .ref 102), (1, .int v1), (2, .int v2), (3, .int v3), (4, .int v4), (5, .int v5)] [] (Sh, D) ((oV Sh) (fn_X12_readsStroke_63 v1 n v2 v3 v4 v5 D)) := by
  intro n
  induction n with
  | zero => intro v2 v3 v4 v5 D; exact Rn_none rfl
  | succ n hk63 =>
    intro v2 v3 v4 v5 D
    rw [fn_X12_readsStroke_63]
    refine r_iload (pc := 63) 5 d_X12_readsStroke_63 rfl ?_
    refine r_iload (pc := 65) 4 d_X12_readsStroke_65 rfl ?_
    refine r_icmp_ge (f := (oV Sh)) (pc := 67) 159 d_X12_readsStroke_67 (by decide) (fun c6 => ?_) (fun c6 => ?_)
    · exact r_vret (pc := 159) rfl d_X12_readsStroke_159
    · refine r_aload_n (pc := 70) 0 d_X12_readsStroke_70 rfl rfl ?_
      refine q_gI (pc := 71) g_X12_129 (K_102 h0) rfl d_X12_readsStroke_71 ?_
      refine r_if_ne (f := (oV Sh)) (pc := 74) 159 d_X12_readsStroke_74 (by decide) (fun c7 => ?_) (fun c7 => ?_)
      · exact r_vret (pc := 159) rfl d_X12_readsStroke_159
      · refine r_iconst (pc := 77) (1 : Int32) d_X12_readsStroke_77 rfl ?_
        refine r_iload_n (pc := 78) 1 d_X12_readsStroke_78 rfl rfl ?_
        refine r_iconst (pc := 79) (3 : Int32) d_X12_readsStroke_79 rfl ?_
        refine r_icmp_ne (f := (oV Sh)) (pc := 80) 97 d_X12_readsStroke_80 (by decide) (fun c8 => ?_) (fun c8 => ?_)
        · refine r_aload_n (pc := 97) 0 d_X12_readsStroke_97 rfl rfl ?_
          refine q_gI (pc := 98) g_X12_195 (K_102 h0) rfl d_X12_readsStroke_98 ?_
          refine r_iload_n (pc := 101) 3 d_X12_readsStroke_101 rfl rfl ?_
          refine r_imul (pc := 102) d_X12_readsStroke_102 ?_
          refine r_iload_n (pc := 103) 2 d_X12_readsStroke_103 rfl rfl ?_
          refine r_iadd (pc := 104) d_X12_readsStroke_104 ?_
          refine r_iload (pc := 105) 5 d_X12_readsStroke_105 rfl ?_
          refine r_iadd (pc := 107) d_X12_readsStroke_107 ?_
          refine r_pick [0, 1, 2, 3, 4, 5] (ls' := [(0, .ref 102), (1, .int v1), (2, .int v2), (3, .int v3), (4, .int v4), (5, .int v5)]) rfl ?_
          exact s_X12_readsStroke_108 hst h0 hd (fn_X12_readsStroke_63 v1 n) hk63 v2 v3 v4 v5 (1 : Int32) ((((gI D 102 10) * v3) + v2) + v5) D
        · refine r_aload_n (pc := 83) 0 d_X12_readsStroke_83 rfl rfl ?_
          refine q_gI (pc := 84) g_X12_195 (K_102 h0) rfl d_X12_readsStroke_84 ?_
          refine r_iload_n (pc := 87) 3 d_X12_readsStroke_87 rfl rfl ?_
          refine r_iload (pc := 88) 5 d_X12_readsStroke_88 rfl ?_
          refine r_iadd (pc := 90) d_X12_readsStroke_90 ?_
          refine r_imul (pc := 91) d_X12_readsStroke_91 ?_
          refine r_iload_n (pc := 92) 2 d_X12_readsStroke_92 rfl rfl ?_
          refine r_iadd (pc := 93) d_X12_readsStroke_93 ?_
          refine r_goto (pc := 94) 108 d_X12_readsStroke_94 (by decide) ?_
          refine r_pick [0, 1, 2, 3, 4, 5] (ls' := [(0, .ref 102), (1, .int v1), (2, .int v2), (3, .int v3), (4, .int v4), (5, .int v5)]) rfl ?_
          exact s_X12_readsStroke_108 hst h0 hd (fn_X12_readsStroke_63 v1 n) hk63 v2 v3 v4 v5 (1 : Int32) (((gI D 102 10) * (v3 + v5)) + v2) D
theorem s_X12_readsStroke {X : zX} {Sh : zSh} {d : Nat} (hst : (zl X).stackTraces = false) (h0 : zSh0 Sh) (hd : 4 ≤ d) {v1 : Int32} {D : zD} : Sd X m_X12_readsStroke d [.ref 102, .int v1] (Sh, D) ((oV Sh) (fn_X12_readsStroke v1 D)) := by
  obtain ⟨d, rfl⟩ : ∃ e, d = e + 1 := ⟨d - 1, by omega⟩
  replace hd : 3 ≤ d := by omega
  refine z_body ck_X12_readsStroke rfl (Nat.le_of_ble_eq_true rfl) rfl hst ?_
  rw [fn_X12_readsStroke]
  show Rn X m_X12_readsStroke (d + 1) 0 [(0, .ref 102), (1, .int v1)] [] (Sh, D) _
  refine r_aload_n (pc := 0) 0 d_X12_readsStroke_0 rfl rfl ?_
  refine r_iconst (pc := 1) (0 : Int32) d_X12_readsStroke_1 rfl ?_
  refine r_aload_n (pc := 2) 0 d_X12_readsStroke_2 rfl rfl ?_
  refine q_gI (pc := 3) g_X12_195 (K_102 h0) rfl d_X12_readsStroke_3 ?_
  refine r_iconst (pc := 6) (1 : Int32) d_X12_readsStroke_6 rfl ?_
  refine r_isub (pc := 7) d_X12_readsStroke_7 ?_
  refine q_cI (f := (oV Sh)) (av := [.ref 102, .int (0 : Int32), .int ((gI D 102 10) - (1 : Int32))]) (st := []) (z_runV ck_X12_number rfl ml_X12_191 ci_X12_number cv_X12_number (K_102 h0) (ci := 12) rfl rfl (Nat.le_of_ble_eq_true rfl) d_X12_readsStroke_8) (s_X12_number hst h0 (by omega)) kp_V (fun q1 _ => ?_)
  refine r_istore_n (pc := 11) (ls' := [(2, .int q1.1), (0, .ref 102), (1, .int v1)]) d_X12_readsStroke_11 rfl (Nat.le_of_ble_eq_true rfl) rfl ?_
  refine r_aload_n (pc := 12) 1 d_X12_readsStroke_12 rfl rfl ?_
  refine r_iconst (pc := 13) (0 : Int32) d_X12_readsStroke_13 rfl ?_
  refine r_aload_n (pc := 14) 1 d_X12_readsStroke_14 rfl rfl ?_
  refine q_gI (pc := 15) g_X12_198 (K_102 h0) rfl d_X12_readsStroke_15 ?_
  refine r_iconst (pc := 18) (1 : Int32) d_X12_readsStroke_18 rfl ?_
  refine r_isub (pc := 19) d_X12_readsStroke_19 ?_
  refine q_cI (f := (oV Sh)) (av := [.ref 102, .int (0 : Int32), .int ((gI q1.2 102 11) - (1 : Int32))]) (st := []) (z_runV ck_X12_number rfl ml_X12_191 ci_X12_number cv_X12_number (K_102 h0) (ci := 12) rfl rfl (Nat.le_of_ble_eq_true rfl) d_X12_readsStroke_20) (s_X12_number hst h0 (by omega)) kp_V (fun q2 _ => ?_)
  refine r_istore_n (pc := 23) (ls' := [(3, .int q2.1), (2, .int q1.1), (0, .ref 102), (1, .int v1)]) d_X12_readsStroke_23 rfl (Nat.le_of_ble_eq_true rfl) rfl ?_
  refine r_iload_n (pc := 24) 3 d_X12_readsStroke_24 rfl rfl ?_
  refine r_iconst (pc := 25) (4 : Int32) d_X12_readsStroke_25 rfl ?_
  refine r_icmp_ne (f := (oV Sh)) (pc := 26) 33 d_X12_readsStroke_26 (by decide) (fun c3 => ?_) (fun c3 => ?_)
  · refine r_aload_n (pc := 33) 2 d_X12_readsStroke_33 rfl rfl ?_
    refine r_iconst (pc := 34) (1 : Int32) d_X12_readsStroke_34 rfl ?_
    refine r_iload_n (pc := 35) 3 d_X12_readsStroke_35 rfl rfl ?_
    refine r_iconst (pc := 36) (2 : Int32) d_X12_readsStroke_36 rfl ?_
    refine r_icmp_ne (f := (oV Sh)) (pc := 37) 49 d_X12_readsStroke_37 (by decide) (fun c4 => ?_) (fun c4 => ?_)
    · refine r_aload_n (pc := 49) 2 d_X12_readsStroke_49 rfl rfl ?_
      refine q_gI (pc := 50) g_X12_198 (K_102 h0) rfl d_X12_readsStroke_50 ?_
      refine r_iload_n (pc := 53) 0 d_X12_readsStroke_53 rfl rfl ?_
      refine r_isub (pc := 54) d_X12_readsStroke_54 ?_
      refine q_cI (f := (oV Sh)) (av := [.ref 102, .int (1 : Int32), .int ((gI q2.2 102 11) - q2.1)]) (st := []) (z_runV ck_X12_number rfl ml_X12_191 ci_X12_number cv_X12_number (K_102 h0) (ci := 12) rfl rfl (Nat.le_of_ble_eq_true rfl) d_X12_readsStroke_55) (s_X12_number hst h0 (by omega)) kp_V (fun q5 _ => ?_)
      refine r_istore (pc := 58) (ls' := [(4, .int q5.1), (3, .int q2.1), (2, .int q1.1), (0, .ref 102), (1, .int v1)]) d_X12_readsStroke_58 (Nat.le_of_ble_eq_true rfl) rfl ?_
      refine r_iconst (pc := 60) (0 : Int32) d_X12_readsStroke_60 rfl ?_
      refine r_istore (pc := 61) (ls' := [(5, .int (0 : Int32)), (4, .int q5.1), (3, .int q2.1), (2, .int q1.1), (0, .ref 102), (1, .int v1)]) d_X12_readsStroke_61 (Nat.le_of_ble_eq_true rfl) rfl ?_
      refine r_pick [4, 5, 3, 2, 1, 0] (ls' := [(0, .ref 102), (1, .int v1), (2, .int q1.1), (3, .int q2.1), (4, .int q5.1), (5, .int (0 : Int32))]) rfl ?_
      exact s_X12_readsStroke_63 hst h0 hd zFU  q1.1 q2.1 q5.1 (0 : Int32) q5.2
    · refine r_aload_n (pc := 40) 2 d_X12_readsStroke_40 rfl rfl ?_
      refine q_gI (pc := 41) g_X12_195 (K_102 h0) rfl d_X12_readsStroke_41 ?_
      refine r_iload_n (pc := 44) 1 d_X12_readsStroke_44 rfl rfl ?_
      refine r_isub (pc := 45) d_X12_readsStroke_45 ?_
      refine r_goto (pc := 46) 55 d_X12_readsStroke_46 (by decide) ?_
      refine q_cI (f := (oV Sh)) (av := [.ref 102, .int (1 : Int32), .int ((gI q2.2 102 10) - q1.1)]) (st := []) (z_runV ck_X12_number rfl ml_X12_191 ci_X12_number cv_X12_number (K_102 h0) (ci := 12) rfl rfl (Nat.le_of_ble_eq_true rfl) d_X12_readsStroke_55) (s_X12_number hst h0 (by omega)) kp_V (fun q17 _ => ?_)
      refine r_istore (pc := 58) (ls' := [(4, .int q17.1), (3, .int q2.1), (2, .int q1.1), (0, .ref 102), (1, .int v1)]) d_X12_readsStroke_58 (Nat.le_of_ble_eq_true rfl) rfl ?_
      refine r_iconst (pc := 60) (0 : Int32) d_X12_readsStroke_60 rfl ?_
      refine r_istore (pc := 61) (ls' := [(5, .int (0 : Int32)), (4, .int q17.1), (3, .int q2.1), (2, .int q1.1), (0, .ref 102), (1, .int v1)]) d_X12_readsStroke_61 (Nat.le_of_ble_eq_true rfl) rfl ?_
      refine r_pick [4, 5, 3, 2, 1, 0] (ls' := [(0, .ref 102), (1, .int v1), (2, .int q1.1), (3, .int q2.1), (4, .int q17.1), (5, .int (0 : Int32))]) rfl ?_
      exact s_X12_readsStroke_63 hst h0 hd zFU  q1.1 q2.1 q17.1 (0 : Int32) q17.2
  · refine r_iconst (pc := 29) (1 : Int32) d_X12_readsStroke_29 rfl ?_
    refine r_goto (pc := 30) 58 d_X12_readsStroke_30 (by decide) ?_
    refine r_istore (pc := 58) (ls' := [(4, .int (1 : Int32)), (3, .int q2.1), (2, .int q1.1), (0, .ref 102), (1, .int v1)]) d_X12_readsStroke_58 (Nat.le_of_ble_eq_true rfl) rfl ?_
    refine r_iconst (pc := 60) (0 : Int32) d_X12_readsStroke_60 rfl ?_
    refine r_istore (pc := 61) (ls' := [(5, .int (0 : Int32)), (4, .int (1 : Int32)), (3, .int q2.1), (2, .int q1.1), (0, .ref 102), (1, .int v1)]) d_X12_readsStroke_61 (Nat.le_of_ble_eq_true rfl) rfl ?_
    refine r_pick [4, 5, 3, 2, 1, 0] (ls' := [(0, .ref 102), (1, .int v1), (2, .int q1.1), (3, .int q2.1), (4, .int (1 : Int32)), (5, .int (0 : Int32))]) rfl ?_
    exact s_X12_readsStroke_63 hst h0 hd zFU  q1.1 q2.1 (1 : Int32) (0 : Int32) q2.2
/-! CoveredSignsModel.readsWord -/
theorem d_X12_readsWord_0 : decode (yB m_X12_readsWord) 0 = .ok (.aload_n 0, 1) := by decide +kernel
theorem d_X12_readsWord_1 : decode (yB m_X12_readsWord) 1 = .ok (.invokevirtual 135, 3) := by decide +kernel
theorem d_X12_readsWord_4 : decode (yB m_X12_readsWord) 4 = .ok (.aload_n 0, 1) := by decide +kernel
theorem d_X12_readsWord_5 : decode (yB m_X12_readsWord) 5 = .ok (.getfield 122, 3) := by decide +kernel
theorem d_X12_readsWord_8 : decode (yB m_X12_readsWord) 8 = .ok (.istore_n 1, 1) := by decide +kernel
theorem d_X12_readsWord_9 : decode (yB m_X12_readsWord) 9 = .ok (.iconst 0, 1) := by decide +kernel
theorem d_X12_readsWord_10 : decode (yB m_X12_readsWord) 10 = .ok (.istore_n 2, 1) := by decide +kernel
theorem d_X12_readsWord_11 : decode (yB m_X12_readsWord) 11 = .ok (.iconst 1, 1) := by decide +kernel
theorem d_X12_readsWord_12 : decode (yB m_X12_readsWord) 12 = .ok (.istore_n 3, 1) := by decide +kernel
theorem d_X12_readsWord_13 : decode (yB m_X12_readsWord) 13 = .ok (.aload_n 0, 1) := by decide +kernel
theorem d_X12_readsWord_14 : decode (yB m_X12_readsWord) 14 = .ok (.aload_n 0, 1) := by decide +kernel
theorem d_X12_readsWord_15 : decode (yB m_X12_readsWord) 15 = .ok (.getfield 122, 3) := by decide +kernel
theorem d_X12_readsWord_18 : decode (yB m_X12_readsWord) 18 = .ok (.invokevirtual 125, 3) := by decide +kernel
theorem d_X12_readsWord_21 : decode (yB m_X12_readsWord) 21 = .ok (.invokestatic 151, 3) := by decide +kernel
theorem d_X12_readsWord_24 : decode (yB m_X12_readsWord) 24 = .ok (.ifCond .ne 12, 3) := by decide +kernel
theorem d_X12_readsWord_27 : decode (yB m_X12_readsWord) 27 = .ok (.aload_n 0, 1) := by decide +kernel
theorem d_X12_readsWord_28 : decode (yB m_X12_readsWord) 28 = .ok (.iconst 1, 1) := by decide +kernel
theorem d_X12_readsWord_29 : decode (yB m_X12_readsWord) 29 = .ok (.aload_n 0, 1) := by decide +kernel
theorem d_X12_readsWord_30 : decode (yB m_X12_readsWord) 30 = .ok (.getfield 122, 3) := by decide +kernel
theorem d_X12_readsWord_33 : decode (yB m_X12_readsWord) 33 = .ok (.invokevirtual 142, 3) := by decide +kernel
theorem d_X12_readsWord_36 : decode (yB m_X12_readsWord) 36 = .ok (.aload_n 0, 1) := by decide +kernel
theorem d_X12_readsWord_37 : decode (yB m_X12_readsWord) 37 = .ok (.aload_n 0, 1) := by decide +kernel
theorem d_X12_readsWord_38 : decode (yB m_X12_readsWord) 38 = .ok (.getfield 122, 3) := by decide +kernel
theorem d_X12_readsWord_41 : decode (yB m_X12_readsWord) 41 = .ok (.invokevirtual 125, 3) := by decide +kernel
theorem d_X12_readsWord_44 : decode (yB m_X12_readsWord) 44 = .ok (.invokestatic 151, 3) := by decide +kernel
theorem d_X12_readsWord_47 : decode (yB m_X12_readsWord) 47 = .ok (.ifCond .eq 76, 3) := by decide +kernel
theorem d_X12_readsWord_50 : decode (yB m_X12_readsWord) 50 = .ok (.aload_n 0, 1) := by decide +kernel
theorem d_X12_readsWord_51 : decode (yB m_X12_readsWord) 51 = .ok (.aload_n 0, 1) := by decide +kernel
theorem d_X12_readsWord_52 : decode (yB m_X12_readsWord) 52 = .ok (.getfield 122, 3) := by decide +kernel
theorem d_X12_readsWord_55 : decode (yB m_X12_readsWord) 55 = .ok (.invokevirtual 125, 3) := by decide +kernel
theorem d_X12_readsWord_58 : decode (yB m_X12_readsWord) 58 = .ok (.bipush 97, 2) := by decide +kernel
theorem d_X12_readsWord_60 : decode (yB m_X12_readsWord) 60 = .ok (.isub, 1) := by decide +kernel
theorem d_X12_readsWord_61 : decode (yB m_X12_readsWord) 61 = .ok (.istore 4, 2) := by decide +kernel
theorem d_X12_readsWord_63 : decode (yB m_X12_readsWord) 63 = .ok (.iload_n 3, 1) := by decide +kernel
theorem d_X12_readsWord_64 : decode (yB m_X12_readsWord) 64 = .ok (.ifCond .eq 22, 3) := by decide +kernel
theorem d_X12_readsWord_67 : decode (yB m_X12_readsWord) 67 = .ok (.iload_n 2, 1) := by decide +kernel
theorem d_X12_readsWord_68 : decode (yB m_X12_readsWord) 68 = .ok (.bipush 6, 2) := by decide +kernel
theorem d_X12_readsWord_70 : decode (yB m_X12_readsWord) 70 = .ok (.if_icmp .ge 16, 3) := by decide +kernel
theorem d_X12_readsWord_73 : decode (yB m_X12_readsWord) 73 = .ok (.iload 4, 2) := by decide +kernel
theorem d_X12_readsWord_75 : decode (yB m_X12_readsWord) 75 = .ok (.aload_n 0, 1) := by decide +kernel
theorem d_X12_readsWord_76 : decode (yB m_X12_readsWord) 76 = .ok (.getfield 185, 3) := by decide +kernel
theorem d_X12_readsWord_79 : decode (yB m_X12_readsWord) 79 = .ok (.if_icmp .ge 7, 3) := by decide +kernel
theorem d_X12_readsWord_82 : decode (yB m_X12_readsWord) 82 = .ok (.iconst 1, 1) := by decide +kernel
theorem d_X12_readsWord_83 : decode (yB m_X12_readsWord) 83 = .ok (.goto 4, 3) := by decide +kernel
theorem d_X12_readsWord_86 : decode (yB m_X12_readsWord) 86 = .ok (.iconst 0, 1) := by decide +kernel
theorem d_X12_readsWord_87 : decode (yB m_X12_readsWord) 87 = .ok (.istore_n 3, 1) := by decide +kernel
theorem d_X12_readsWord_88 : decode (yB m_X12_readsWord) 88 = .ok (.iload_n 2, 1) := by decide +kernel
theorem d_X12_readsWord_89 : decode (yB m_X12_readsWord) 89 = .ok (.bipush 6, 2) := by decide +kernel
theorem d_X12_readsWord_91 : decode (yB m_X12_readsWord) 91 = .ok (.if_icmp .ge 16, 3) := by decide +kernel
theorem d_X12_readsWord_94 : decode (yB m_X12_readsWord) 94 = .ok (.aload_n 0, 1) := by decide +kernel
theorem d_X12_readsWord_95 : decode (yB m_X12_readsWord) 95 = .ok (.getfield 43, 3) := by decide +kernel
theorem d_X12_readsWord_98 : decode (yB m_X12_readsWord) 98 = .ok (.aload_n 0, 1) := by decide +kernel
theorem d_X12_readsWord_99 : decode (yB m_X12_readsWord) 99 = .ok (.getfield 188, 3) := by decide +kernel
theorem d_X12_readsWord_102 : decode (yB m_X12_readsWord) 102 = .ok (.aaload, 1) := by decide +kernel
theorem d_X12_readsWord_103 : decode (yB m_X12_readsWord) 103 = .ok (.iload_n 2, 1) := by decide +kernel
theorem d_X12_readsWord_104 : decode (yB m_X12_readsWord) 104 = .ok (.iload 4, 2) := by decide +kernel
theorem d_X12_readsWord_106 : decode (yB m_X12_readsWord) 106 = .ok (.iastore, 1) := by decide +kernel
theorem d_X12_readsWord_107 : decode (yB m_X12_readsWord) 107 = .ok (.iinc 2 1, 3) := by decide +kernel
theorem d_X12_readsWord_110 : decode (yB m_X12_readsWord) 110 = .ok (.aload_n 0, 1) := by decide +kernel
theorem d_X12_readsWord_111 : decode (yB m_X12_readsWord) 111 = .ok (.dup, 1) := by decide +kernel
theorem d_X12_readsWord_112 : decode (yB m_X12_readsWord) 112 = .ok (.getfield 122, 3) := by decide +kernel
theorem d_X12_readsWord_115 : decode (yB m_X12_readsWord) 115 = .ok (.iconst 1, 1) := by decide +kernel
theorem d_X12_readsWord_116 : decode (yB m_X12_readsWord) 116 = .ok (.iadd, 1) := by decide +kernel
theorem d_X12_readsWord_117 : decode (yB m_X12_readsWord) 117 = .ok (.putfield 122, 3) := by decide +kernel
theorem d_X12_readsWord_120 : decode (yB m_X12_readsWord) 120 = .ok (.goto (-84), 3) := by decide +kernel
theorem d_X12_readsWord_123 : decode (yB m_X12_readsWord) 123 = .ok (.iload_n 3, 1) := by decide +kernel
theorem d_X12_readsWord_124 : decode (yB m_X12_readsWord) 124 = .ok (.ifCond .ne 9, 3) := by decide +kernel
theorem d_X12_readsWord_127 : decode (yB m_X12_readsWord) 127 = .ok (.aload_n 0, 1) := by decide +kernel
theorem d_X12_readsWord_128 : decode (yB m_X12_readsWord) 128 = .ok (.iconst 2, 1) := by decide +kernel
theorem d_X12_readsWord_129 : decode (yB m_X12_readsWord) 129 = .ok (.iload_n 1, 1) := by decide +kernel
theorem d_X12_readsWord_130 : decode (yB m_X12_readsWord) 130 = .ok (.invokevirtual 142, 3) := by decide +kernel
theorem d_X12_readsWord_133 : decode (yB m_X12_readsWord) 133 = .ok (.aload_n 0, 1) := by decide +kernel
theorem d_X12_readsWord_134 : decode (yB m_X12_readsWord) 134 = .ok (.getfield 129, 3) := by decide +kernel
theorem d_X12_readsWord_137 : decode (yB m_X12_readsWord) 137 = .ok (.ifCond .eq 4, 3) := by decide +kernel
theorem d_X12_readsWord_140 : decode (yB m_X12_readsWord) 140 = .ok (.return_, 1) := by decide +kernel
theorem d_X12_readsWord_141 : decode (yB m_X12_readsWord) 141 = .ok (.aload_n 0, 1) := by decide +kernel
theorem d_X12_readsWord_142 : decode (yB m_X12_readsWord) 142 = .ok (.getfield 35, 3) := by decide +kernel
theorem d_X12_readsWord_145 : decode (yB m_X12_readsWord) 145 = .ok (.aload_n 0, 1) := by decide +kernel
theorem d_X12_readsWord_146 : decode (yB m_X12_readsWord) 146 = .ok (.getfield 188, 3) := by decide +kernel
theorem d_X12_readsWord_149 : decode (yB m_X12_readsWord) 149 = .ok (.iload_n 2, 1) := by decide +kernel
theorem d_X12_readsWord_150 : decode (yB m_X12_readsWord) 150 = .ok (.iastore, 1) := by decide +kernel
theorem d_X12_readsWord_151 : decode (yB m_X12_readsWord) 151 = .ok (.aload_n 0, 1) := by decide +kernel
theorem d_X12_readsWord_152 : decode (yB m_X12_readsWord) 152 = .ok (.dup, 1) := by decide +kernel
theorem d_X12_readsWord_153 : decode (yB m_X12_readsWord) 153 = .ok (.getfield 188, 3) := by decide +kernel
theorem d_X12_readsWord_156 : decode (yB m_X12_readsWord) 156 = .ok (.iconst 1, 1) := by decide +kernel
theorem d_X12_readsWord_157 : decode (yB m_X12_readsWord) 157 = .ok (.iadd, 1) := by decide +kernel
theorem d_X12_readsWord_158 : decode (yB m_X12_readsWord) 158 = .ok (.putfield 188, 3) := by decide +kernel
theorem d_X12_readsWord_161 : decode (yB m_X12_readsWord) 161 = .ok (.return_, 1) := by decide +kernel
def fn_X12_readsWord_133  (v2 : Int32) (D : zD) : Option zD := (if (gI D 102 5) = 0 then (zck (gI D 102 13) 8 <| zlet (sI D 108 (gI D 102 13).toNatClampNeg v2) fun D12 => zlet (sI D12 102 13 ((gI D12 102 13) + (1 : Int32))) fun D13 => (some D13)) else ((some D)))
def fn_X12_readsWord_123  (v1 : Int32) (v2 : Int32) (v3 : Int32) (D : zD) : Option zD := (if v3 = 0 then ((fn_X12_wrong (2 : Int32) v1 D).bind fun D14 => (fn_X12_readsWord_133 v2 D14)) else ((fn_X12_readsWord_133 v2 D)))
def fn_X12_readsWord_107 (k36 : Int32 → Int32 → Int32 → zD → Option zD) (v1 : Int32) (v2 : Int32) (v3 : Int32) (D : zD) : Option zD := zlet (sI D 102 4 ((gI D 102 4) + (1 : Int32))) fun D19 => (k36 v1 (v2 + (1 : Int32)) v3 D19)
def fn_X12_readsWord_87 (k36 : Int32 → Int32 → Int32 → zD → Option zD) (v1 : Int32) (v2 : Int32) (v4 : Int32) (w0 : Int32) (D : zD) : Option zD := (if (6 : Int32) ≤ v2 then ((fn_X12_readsWord_107 k36 v1 v2 w0 D)) else (zck (gI D 102 13) 8 <| zck v2 6 <| zlet (sI D (111 + (gI D 102 13).toNatClampNeg) v2.toNatClampNeg v4) fun D22 => (fn_X12_readsWord_107 k36 v1 v2 w0 D22)))
def fn_X12_readsWord_86 (k36 : Int32 → Int32 → Int32 → zD → Option zD) (v1 : Int32) (v2 : Int32) (v4 : Int32) (D : zD) : Option zD := (fn_X12_readsWord_87 k36 v1 v2 v4 (0 : Int32) D)
def fn_X12_readsWord_36  : Nat → Int32 → Int32 → Int32 → zD → Option zD
  | 0, _, _, _, _ => none
  | n + 1, v1, v2, v3, D => (fn_X12_byteAt (gI D 102 4) D).bind fun x6 => (fn_X12_isSmall x6).bind fun x7 => (if x7 = 0 then ((fn_X12_readsWord_123 v1 v2 v3 D)) else ((fn_X12_byteAt (gI D 102 4) D).bind fun x15 => zlet (x15 - (97 : Int32)) fun x16 => (if v3 = 0 then ((fn_X12_readsWord_86 (fn_X12_readsWord_36  n) v1 v2 x16 D)) else ((if (6 : Int32) ≤ v2 then ((fn_X12_readsWord_86 (fn_X12_readsWord_36  n) v1 v2 x16 D)) else ((if (gI D 102 12) ≤ x16 then ((fn_X12_readsWord_86 (fn_X12_readsWord_36  n) v1 v2 x16 D)) else ((fn_X12_readsWord_87 (fn_X12_readsWord_36  n) v1 v2 x16 (1 : Int32) D)))))))))
def fn_X12_readsWord (D : zD) : Option zD := (fn_X12_blanks D).bind fun D1 => zlet (gI D1 102 4) fun x2 => (fn_X12_byteAt (gI D1 102 4) D1).bind fun x3 => (fn_X12_isSmall x3).bind fun x4 => (if x4 = 0 then ((fn_X12_wrong (1 : Int32) (gI D1 102 4) D1).bind fun D25 => (fn_X12_readsWord_36 zFU x2 (0 : Int32) (1 : Int32) D25)) else ((fn_X12_readsWord_36 zFU x2 (0 : Int32) (1 : Int32) D1)))
theorem s_X12_readsWord_133 {X : zX} {Sh : zSh} {d : Nat} (hst : (zl X).stackTraces = false) (h0 : zSh0 Sh) (hd : 2 ≤ d)  (v2 : Int32) (D : zD)  : Rn X m_X12_readsWord (d + 1) 133 [(0, .ref 102), (2, .int v2)] [] (Sh, D) ((oV Sh) (fn_X12_readsWord_133  v2 D)) := by
  rw [fn_X12_readsWord_133]
  refine r_aload_n (pc := 133) 0 d_X12_readsWord_133 rfl rfl ?_
  refine q_gI (pc := 134) g_X12_129 (K_102 h0) rfl d_X12_readsWord_134 ?_
  refine r_if_eq (f := (oV Sh)) (pc := 137) 141 d_X12_readsWord_137 (by decide) (fun c10 => ?_) (fun c10 => ?_)
  · refine r_aload_n (pc := 141) 0 d_X12_readsWord_141 rfl rfl ?_
    refine r_getR (pc := 142) g_X12_35 (K_102 h0) rfl (R_102_22 h0) d_X12_readsWord_142 ?_
    refine r_aload_n (pc := 145) 0 d_X12_readsWord_145 rfl rfl ?_
    refine q_gI (pc := 146) g_X12_188 (K_102 h0) rfl d_X12_readsWord_146 ?_
    refine r_iload_n (pc := 149) 1 d_X12_readsWord_149 rfl rfl ?_
    refine r_ck (f := (oV Sh)) rfl (fun hc11 => ?_)
    refine q_iast (pc := 150) (j := (gI D 102 13).toNatClampNeg) (K_108 h0) hc11 rfl  d_X12_readsWord_150 ?_
    refine r_letD (f := (oV Sh)) (fun D12 => ?_)
    refine r_aload_n (pc := 151) 0 d_X12_readsWord_151 rfl rfl ?_
    refine r_dup (pc := 152) d_X12_readsWord_152 rfl ?_
    refine q_gI (pc := 153) g_X12_188 (K_102 h0) rfl d_X12_readsWord_153 ?_
    refine r_iconst (pc := 156) (1 : Int32) d_X12_readsWord_156 rfl ?_
    refine r_iadd (pc := 157) d_X12_readsWord_157 ?_
    refine r_putI (pc := 158) p_X12_188 (K_102 h0) rfl (Or.inl rfl) d_X12_readsWord_158 ?_
    refine r_letD (f := (oV Sh)) (fun D13 => ?_)
    exact r_vret (pc := 161) rfl d_X12_readsWord_161
  · exact r_vret (pc := 140) rfl d_X12_readsWord_140
theorem s_X12_readsWord_123 {X : zX} {Sh : zSh} {d : Nat} (hst : (zl X).stackTraces = false) (h0 : zSh0 Sh) (hd : 2 ≤ d)  (v1 : Int32) (v2 : Int32) (v3 : Int32) (D : zD)  : Rn X m_X12_readsWord (d + 1) 123 [(0, .ref 102), (1, .int v1), (2, .int v2), (3, .int v3)] [] (Sh, D) ((oV Sh) (fn_X12_readsWord_123  v1 v2 v3 D)) := by
  rw [fn_X12_readsWord_123]
  refine r_iload_n (pc := 123) 3 d_X12_readsWord_123 rfl rfl ?_
  refine r_if_ne (f := (oV Sh)) (pc := 124) 133 d_X12_readsWord_124 (by decide) (fun c9 => ?_) (fun c9 => ?_)
  · refine r_pick [0, 2] (ls' := [(0, .ref 102), (2, .int v2)]) rfl ?_
    exact s_X12_readsWord_133 hst h0 hd v2 D
  · refine r_aload_n (pc := 127) 0 d_X12_readsWord_127 rfl rfl ?_
    refine r_iconst (pc := 128) (2 : Int32) d_X12_readsWord_128 rfl ?_
    refine r_iload_n (pc := 129) 1 d_X12_readsWord_129 rfl rfl ?_
    refine q_cV (f := (oV Sh)) (av := [.ref 102, .int (2 : Int32), .int v1]) (st := []) (z_runV ck_X12_wrong rfl ml_X12_142 ci_X12_wrong cv_X12_wrong (K_102 h0) (ci := 12) rfl rfl (Nat.le_of_ble_eq_true rfl) d_X12_readsWord_130) (s_X12_wrong hst h0 (by omega)) kp_V (fun D14 _ => ?_)
    refine r_pick [0, 2] (ls' := [(0, .ref 102), (2, .int v2)]) rfl ?_
    exact s_X12_readsWord_133 hst h0 hd v2 D14
theorem s_X12_readsWord_107 {X : zX} {Sh : zSh} {d : Nat} (hst : (zl X).stackTraces = false) (h0 : zSh0 Sh) (hd : 2 ≤ d) (k36 : Int32 → Int32 → Int32 → zD → Option zD) (hk36 : ∀ (v1 : Int32) (v2 : Int32) (v3 : Int32) (D : zD) , Rn X m_X12_readsWord (d + 1) 36 [(0, .ref 102), (1, .int v1), (2, .int v2), (3, .int v3)] [] (Sh, D) ((oV Sh) (k36 v1 v2 v3 D))) (v1 : Int32) (v2 : Int32) (v3 : Int32) (D : zD)  : Rn X m_X12_readsWord (d + 1) 107 [(0, .ref 102), (1, .int v1), (2, .int v2), (3, .int v3)] [] (Sh, D) ((oV Sh) (fn_X12_readsWord_107 k36 v1 v2 v3 D)) := by
  rw [fn_X12_readsWord_107]
  refine r_iinc (pc := 107) ((v2 + (1 : Int32))) 2 (ls' := [(2, .int (v2 + (1 : Int32))), (0, .ref 102), (1, .int v1), (3, .int v3)]) d_X12_readsWord_107 rfl rfl (Nat.le_of_ble_eq_true rfl) rfl ?_
  refine r_aload_n (pc := 110) 1 d_X12_readsWord_110 rfl rfl ?_
  refine r_dup (pc := 111) d_X12_readsWord_111 rfl ?_
  refine q_gI (pc := 112) g_X12_122 (K_102 h0) rfl d_X12_readsWord_112 ?_
  refine r_iconst (pc := 115) (1 : Int32) d_X12_readsWord_115 rfl ?_
  refine r_iadd (pc := 116) d_X12_readsWord_116 ?_
  refine r_putI (pc := 117) p_X12_122 (K_102 h0) rfl (Or.inl rfl) d_X12_readsWord_117 ?_
  refine r_letD (f := (oV Sh)) (fun D19 => ?_)
  refine r_goto (pc := 120) 36 d_X12_readsWord_120 (by decide) ?_
  refine r_pick [1, 2, 0, 3] (ls' := [(0, .ref 102), (1, .int v1), (2, .int (v2 + (1 : Int32))), (3, .int v3)]) rfl ?_
  exact hk36 v1 (v2 + (1 : Int32)) v3 D19 
theorem s_X12_readsWord_87 {X : zX} {Sh : zSh} {d : Nat} (hst : (zl X).stackTraces = false) (h0 : zSh0 Sh) (hd : 2 ≤ d) (k36 : Int32 → Int32 → Int32 → zD → Option zD) (hk36 : ∀ (v1 : Int32) (v2 : Int32) (v3 : Int32) (D : zD) , Rn X m_X12_readsWord (d + 1) 36 [(0, .ref 102), (1, .int v1), (2, .int v2), (3, .int v3)] [] (Sh, D) ((oV Sh) (k36 v1 v2 v3 D))) (v1 : Int32) (v2 : Int32) (v4 : Int32) (w0 : Int32) (D : zD)  : Rn X m_X12_readsWord (d + 1) 87 [(0, .ref 102), (1, .int v1), (2, .int v2), (4, .int v4)] [.int w0] (Sh, D) ((oV Sh) (fn_X12_readsWord_87 k36 v1 v2 v4 w0 D)) := by
  rw [fn_X12_readsWord_87]
  refine r_istore_n (pc := 87) (ls' := [(3, .int w0), (0, .ref 102), (1, .int v1), (2, .int v2), (4, .int v4)]) d_X12_readsWord_87 rfl (Nat.le_of_ble_eq_true rfl) rfl ?_
  refine r_iload_n (pc := 88) 3 d_X12_readsWord_88 rfl rfl ?_
  refine r_bipush (pc := 89) (6 : Int32) d_X12_readsWord_89 rfl ?_
  refine r_icmp_ge (f := (oV Sh)) (pc := 91) 107 d_X12_readsWord_91 (by decide) (fun c18 => ?_) (fun c18 => ?_)
  · refine r_pick [1, 2, 3, 0] (ls' := [(0, .ref 102), (1, .int v1), (2, .int v2), (3, .int w0)]) rfl ?_
    exact s_X12_readsWord_107 hst h0 hd k36 hk36 v1 v2 w0 D
  · refine r_aload_n (pc := 94) 1 d_X12_readsWord_94 rfl rfl ?_
    refine r_getR (pc := 95) g_X12_43 (K_102 h0) rfl (R_102_24 h0) d_X12_readsWord_95 ?_
    refine r_aload_n (pc := 98) 1 d_X12_readsWord_98 rfl rfl ?_
    refine q_gI (pc := 99) g_X12_188 (K_102 h0) rfl d_X12_readsWord_99 ?_
    refine r_ck (f := (oV Sh)) rfl (fun hc20 => ?_)
    refine q_aald (pc := 102) (j := (gI D 102 13).toNatClampNeg) (K_110 h0) (Or.inl ⟨rfl, rfl⟩) hc20 rfl (RW_110 h0 _ (z_lt hc20)) d_X12_readsWord_102 ?_
    refine r_iload_n (pc := 103) 3 d_X12_readsWord_103 rfl rfl ?_
    refine r_iload (pc := 104) 4 d_X12_readsWord_104 rfl ?_
    refine r_ck (f := (oV Sh)) rfl (fun hc21 => ?_)
    refine q_iast (pc := 106) (j := v2.toNatClampNeg) (RK_110 h0 _ (z_lt hc20)) hc21 rfl  d_X12_readsWord_106 ?_
    refine r_letD (f := (oV Sh)) (fun D22 => ?_)
    refine r_pick [1, 2, 3, 0] (ls' := [(0, .ref 102), (1, .int v1), (2, .int v2), (3, .int w0)]) rfl ?_
    exact s_X12_readsWord_107 hst h0 hd k36 hk36 v1 v2 w0 D22
theorem s_X12_readsWord_86 {X : zX} {Sh : zSh} {d : Nat} (hst : (zl X).stackTraces = false) (h0 : zSh0 Sh) (hd : 2 ≤ d) (k36 : Int32 → Int32 → Int32 → zD → Option zD) (hk36 : ∀ (v1 : Int32) (v2 : Int32) (v3 : Int32) (D : zD) , Rn X m_X12_readsWord (d + 1) 36 [(0, .ref 102), (1, .int v1), (2, .int v2), (3, .int v3)] [] (Sh, D) ((oV Sh) (k36 v1 v2 v3 D))) (v1 : Int32) (v2 : Int32) (v4 : Int32) (D : zD)  : Rn X m_X12_readsWord (d + 1) 86 [(0, .ref 102), (1, .int v1), (2, .int v2), (4, .int v4)] [] (Sh, D) ((oV Sh) (fn_X12_readsWord_86 k36 v1 v2 v4 D)) := by
  rw [fn_X12_readsWord_86]
  refine r_iconst (pc := 86) (0 : Int32) d_X12_readsWord_86 rfl ?_
  refine r_pick [0, 1, 2, 3] (ls' := [(0, .ref 102), (1, .int v1), (2, .int v2), (4, .int v4)]) rfl ?_
  exact s_X12_readsWord_87 hst h0 hd k36 hk36 v1 v2 v4 (0 : Int32) D
theorem s_X12_readsWord_36 {X : zX} {Sh : zSh} {d : Nat} (hst : (zl X).stackTraces = false) (h0 : zSh0 Sh) (hd : 2 ≤ d)  : ∀ (n : Nat) (v1 : Int32) (v2 : Int32) (v3 : Int32) (D : zD) , Rn X m_X12_readsWord (d + 1) 36 [(0, .ref 102), (1, .int v1), (2, .int v2), (3, .int v3)] [] (Sh, D) ((oV Sh) (fn_X12_readsWord_36  n v1 v2 v3 D)) := by
  intro n
  induction n with
  | zero => intro v1 v2 v3 D; exact Rn_none rfl
  | succ n hk36 =>
    intro v1 v2 v3 D
    rw [fn_X12_readsWord_36]
    refine r_aload_n (pc := 36) 0 d_X12_readsWord_36 rfl rfl ?_
    refine r_aload_n (pc := 37) 0 d_X12_readsWord_37 rfl rfl ?_
    refine q_gI (pc := 38) g_X12_122 (K_102 h0) rfl d_X12_readsWord_38 ?_
    refine q_cP (f := (oV Sh)) (av := [.ref 102, .int (gI D 102 4)]) (st := []) (z_runV ck_X12_byteAt rfl ml_X12_125 ci_X12_byteAt cv_X12_byteAt (K_102 h0) (ci := 12) rfl rfl (Nat.le_of_ble_eq_true rfl) d_X12_readsWord_41) (s_X12_byteAt hst h0 (by omega)) kp_V (fun x6 _ => ?_)
    refine q_cP (f := (oV Sh)) (av := [.int x6]) (st := []) (z_runS ck_X12_isSmall rfl ml_X12_151 cs_X12_isSmall rfl (Nat.le_of_ble_eq_true rfl) d_X12_readsWord_44) (s_X12_isSmall hst h0 (by omega)) kp_V (fun x7 _ => ?_)
    refine r_if_eq (f := (oV Sh)) (pc := 47) 123 d_X12_readsWord_47 (by decide) (fun c8 => ?_) (fun c8 => ?_)
    · refine r_pick [0, 1, 2, 3] (ls' := [(0, .ref 102), (1, .int v1), (2, .int v2), (3, .int v3)]) rfl ?_
      exact s_X12_readsWord_123 hst h0 hd v1 v2 v3 D
    · refine r_aload_n (pc := 50) 0 d_X12_readsWord_50 rfl rfl ?_
      refine r_aload_n (pc := 51) 0 d_X12_readsWord_51 rfl rfl ?_
      refine q_gI (pc := 52) g_X12_122 (K_102 h0) rfl d_X12_readsWord_52 ?_
      refine q_cP (f := (oV Sh)) (av := [.ref 102, .int (gI D 102 4)]) (st := []) (z_runV ck_X12_byteAt rfl ml_X12_125 ci_X12_byteAt cv_X12_byteAt (K_102 h0) (ci := 12) rfl rfl (Nat.le_of_ble_eq_true rfl) d_X12_readsWord_55) (s_X12_byteAt hst h0 (by omega)) kp_V (fun x15 _ => ?_)
      refine r_bipush (pc := 58) (97 : Int32) d_X12_readsWord_58 rfl ?_
      refine r_isub (pc := 60) d_X12_readsWord_60 ?_
      refine r_leti (f := (oV Sh)) (fun x16 => ?_)
      refine r_istore (pc := 61) (ls' := [(4, .int x16), (0, .ref 102), (1, .int v1), (2, .int v2), (3, .int v3)]) d_X12_readsWord_61 (Nat.le_of_ble_eq_true rfl) rfl ?_
      refine r_iload_n (pc := 63) 4 d_X12_readsWord_63 rfl rfl ?_
      refine r_if_eq (f := (oV Sh)) (pc := 64) 86 d_X12_readsWord_64 (by decide) (fun c17 => ?_) (fun c17 => ?_)
      · refine r_pick [1, 2, 3, 0] (ls' := [(0, .ref 102), (1, .int v1), (2, .int v2), (4, .int x16)]) rfl ?_
        exact s_X12_readsWord_86 hst h0 hd (fn_X12_readsWord_36  n) hk36 v1 v2 x16 D
      · refine r_iload_n (pc := 67) 3 d_X12_readsWord_67 rfl rfl ?_
        refine r_bipush (pc := 68) (6 : Int32) d_X12_readsWord_68 rfl ?_
        refine r_icmp_ge (f := (oV Sh)) (pc := 70) 86 d_X12_readsWord_70 (by decide) (fun c23 => ?_) (fun c23 => ?_)
        · refine r_pick [1, 2, 3, 0] (ls' := [(0, .ref 102), (1, .int v1), (2, .int v2), (4, .int x16)]) rfl ?_
          exact s_X12_readsWord_86 hst h0 hd (fn_X12_readsWord_36  n) hk36 v1 v2 x16 D
        · refine r_iload (pc := 73) 0 d_X12_readsWord_73 rfl ?_
          refine r_aload_n (pc := 75) 1 d_X12_readsWord_75 rfl rfl ?_
          refine q_gI (pc := 76) g_X12_185 (K_102 h0) rfl d_X12_readsWord_76 ?_
          refine r_icmp_ge (f := (oV Sh)) (pc := 79) 86 d_X12_readsWord_79 (by decide) (fun c24 => ?_) (fun c24 => ?_)
          · refine r_pick [1, 2, 3, 0] (ls' := [(0, .ref 102), (1, .int v1), (2, .int v2), (4, .int x16)]) rfl ?_
            exact s_X12_readsWord_86 hst h0 hd (fn_X12_readsWord_36  n) hk36 v1 v2 x16 D
          · refine r_iconst (pc := 82) (1 : Int32) d_X12_readsWord_82 rfl ?_
            refine r_goto (pc := 83) 87 d_X12_readsWord_83 (by decide) ?_
            refine r_pick [1, 2, 3, 0] (ls' := [(0, .ref 102), (1, .int v1), (2, .int v2), (4, .int x16)]) rfl ?_
            exact s_X12_readsWord_87 hst h0 hd (fn_X12_readsWord_36  n) hk36 v1 v2 x16 (1 : Int32) D
theorem s_X12_readsWord {X : zX} {Sh : zSh} {d : Nat} (hst : (zl X).stackTraces = false) (h0 : zSh0 Sh) (hd : 3 ≤ d)  {D : zD} : Sd X m_X12_readsWord d [.ref 102] (Sh, D) ((oV Sh) (fn_X12_readsWord D)) := by
  obtain ⟨d, rfl⟩ : ∃ e, d = e + 1 := ⟨d - 1, by omega⟩
  replace hd : 2 ≤ d := by omega
  refine z_body ck_X12_readsWord rfl (Nat.le_of_ble_eq_true rfl) rfl hst ?_
  rw [fn_X12_readsWord]
  show Rn X m_X12_readsWord (d + 1) 0 [(0, .ref 102)] [] (Sh, D) _
  refine r_aload_n (pc := 0) 0 d_X12_readsWord_0 rfl rfl ?_
  refine q_cV (f := (oV Sh)) (av := [.ref 102]) (st := []) (z_runV ck_X12_blanks rfl ml_X12_135 ci_X12_blanks cv_X12_blanks (K_102 h0) (ci := 12) rfl rfl (Nat.le_of_ble_eq_true rfl) d_X12_readsWord_1) (s_X12_blanks hst h0 (by omega)) kp_V (fun D1 _ => ?_)
  refine r_aload_n (pc := 4) 0 d_X12_readsWord_4 rfl rfl ?_
  refine q_gI (pc := 5) g_X12_122 (K_102 h0) rfl d_X12_readsWord_5 ?_
  refine r_leti (f := (oV Sh)) (fun x2 => ?_)
  refine r_istore_n (pc := 8) (ls' := [(1, .int x2), (0, .ref 102)]) d_X12_readsWord_8 rfl (Nat.le_of_ble_eq_true rfl) rfl ?_
  refine r_iconst (pc := 9) (0 : Int32) d_X12_readsWord_9 rfl ?_
  refine r_istore_n (pc := 10) (ls' := [(2, .int (0 : Int32)), (1, .int x2), (0, .ref 102)]) d_X12_readsWord_10 rfl (Nat.le_of_ble_eq_true rfl) rfl ?_
  refine r_iconst (pc := 11) (1 : Int32) d_X12_readsWord_11 rfl ?_
  refine r_istore_n (pc := 12) (ls' := [(3, .int (1 : Int32)), (2, .int (0 : Int32)), (1, .int x2), (0, .ref 102)]) d_X12_readsWord_12 rfl (Nat.le_of_ble_eq_true rfl) rfl ?_
  refine r_aload_n (pc := 13) 3 d_X12_readsWord_13 rfl rfl ?_
  refine r_aload_n (pc := 14) 3 d_X12_readsWord_14 rfl rfl ?_
  refine q_gI (pc := 15) g_X12_122 (K_102 h0) rfl d_X12_readsWord_15 ?_
  refine q_cP (f := (oV Sh)) (av := [.ref 102, .int (gI D1 102 4)]) (st := []) (z_runV ck_X12_byteAt rfl ml_X12_125 ci_X12_byteAt cv_X12_byteAt (K_102 h0) (ci := 12) rfl rfl (Nat.le_of_ble_eq_true rfl) d_X12_readsWord_18) (s_X12_byteAt hst h0 (by omega)) kp_V (fun x3 _ => ?_)
  refine q_cP (f := (oV Sh)) (av := [.int x3]) (st := []) (z_runS ck_X12_isSmall rfl ml_X12_151 cs_X12_isSmall rfl (Nat.le_of_ble_eq_true rfl) d_X12_readsWord_21) (s_X12_isSmall hst h0 (by omega)) kp_V (fun x4 _ => ?_)
  refine r_if_ne (f := (oV Sh)) (pc := 24) 36 d_X12_readsWord_24 (by decide) (fun c5 => ?_) (fun c5 => ?_)
  · refine r_pick [3, 2, 1, 0] (ls' := [(0, .ref 102), (1, .int x2), (2, .int (0 : Int32)), (3, .int (1 : Int32))]) rfl ?_
    exact s_X12_readsWord_36 hst h0 hd zFU  x2 (0 : Int32) (1 : Int32) D1
  · refine r_aload_n (pc := 27) 3 d_X12_readsWord_27 rfl rfl ?_
    refine r_iconst (pc := 28) (1 : Int32) d_X12_readsWord_28 rfl ?_
    refine r_aload_n (pc := 29) 3 d_X12_readsWord_29 rfl rfl ?_
    refine q_gI (pc := 30) g_X12_122 (K_102 h0) rfl d_X12_readsWord_30 ?_
    refine q_cV (f := (oV Sh)) (av := [.ref 102, .int (1 : Int32), .int (gI D1 102 4)]) (st := []) (z_runV ck_X12_wrong rfl ml_X12_142 ci_X12_wrong cv_X12_wrong (K_102 h0) (ci := 12) rfl rfl (Nat.le_of_ble_eq_true rfl) d_X12_readsWord_33) (s_X12_wrong hst h0 (by omega)) kp_V (fun D25 _ => ?_)
    refine r_pick [3, 2, 1, 0] (ls' := [(0, .ref 102), (1, .int x2), (2, .int (0 : Int32)), (3, .int (1 : Int32))]) rfl ?_
    exact s_X12_readsWord_36 hst h0 hd zFU  x2 (0 : Int32) (1 : Int32) D25
/-! CoveredSignsModel.clause -/
theorem d_X12_clause_0 : decode (yB m_X12_clause) 0 = .ok (.aload_n 0, 1) := by decide +kernel
theorem d_X12_clause_1 : decode (yB m_X12_clause) 1 = .ok (.invokevirtual 182, 3) := by decide +kernel
theorem d_X12_clause_4 : decode (yB m_X12_clause) 4 = .ok (.istore_n 1, 1) := by decide +kernel
theorem d_X12_clause_5 : decode (yB m_X12_clause) 5 = .ok (.iload_n 1, 1) := by decide +kernel
theorem d_X12_clause_6 : decode (yB m_X12_clause) 6 = .ok (.iconst 1, 1) := by decide +kernel
theorem d_X12_clause_7 : decode (yB m_X12_clause) 7 = .ok (.if_icmp .eq 14, 3) := by decide +kernel
theorem d_X12_clause_10 : decode (yB m_X12_clause) 10 = .ok (.iload_n 1, 1) := by decide +kernel
theorem d_X12_clause_11 : decode (yB m_X12_clause) 11 = .ok (.iconst 5, 1) := by decide +kernel
theorem d_X12_clause_12 : decode (yB m_X12_clause) 12 = .ok (.if_icmp .eq 9, 3) := by decide +kernel
theorem d_X12_clause_15 : decode (yB m_X12_clause) 15 = .ok (.iload_n 1, 1) := by decide +kernel
theorem d_X12_clause_16 : decode (yB m_X12_clause) 16 = .ok (.bipush 6, 2) := by decide +kernel
theorem d_X12_clause_18 : decode (yB m_X12_clause) 18 = .ok (.if_icmp .ne 7, 3) := by decide +kernel
theorem d_X12_clause_21 : decode (yB m_X12_clause) 21 = .ok (.iconst 1, 1) := by decide +kernel
theorem d_X12_clause_22 : decode (yB m_X12_clause) 22 = .ok (.goto 4, 3) := by decide +kernel
theorem d_X12_clause_25 : decode (yB m_X12_clause) 25 = .ok (.iconst 0, 1) := by decide +kernel
theorem d_X12_clause_26 : decode (yB m_X12_clause) 26 = .ok (.istore_n 2, 1) := by decide +kernel
theorem d_X12_clause_27 : decode (yB m_X12_clause) 27 = .ok (.iload_n 1, 1) := by decide +kernel
theorem d_X12_clause_28 : decode (yB m_X12_clause) 28 = .ok (.iconst (-1), 1) := by decide +kernel
theorem d_X12_clause_29 : decode (yB m_X12_clause) 29 = .ok (.if_icmp .eq 19, 3) := by decide +kernel
theorem d_X12_clause_32 : decode (yB m_X12_clause) 32 = .ok (.iload_n 1, 1) := by decide +kernel
theorem d_X12_clause_33 : decode (yB m_X12_clause) 33 = .ok (.iconst 2, 1) := by decide +kernel
theorem d_X12_clause_34 : decode (yB m_X12_clause) 34 = .ok (.iconst 4, 1) := by decide +kernel
theorem d_X12_clause_35 : decode (yB m_X12_clause) 35 = .ok (.invokestatic 147, 3) := by decide +kernel
theorem d_X12_clause_38 : decode (yB m_X12_clause) 38 = .ok (.ifCond .eq 22, 3) := by decide +kernel
theorem d_X12_clause_41 : decode (yB m_X12_clause) 41 = .ok (.aload_n 0, 1) := by decide +kernel
theorem d_X12_clause_42 : decode (yB m_X12_clause) 42 = .ok (.getfield 185, 3) := by decide +kernel
theorem d_X12_clause_45 : decode (yB m_X12_clause) 45 = .ok (.ifCond .ne 15, 3) := by decide +kernel
theorem d_X12_clause_48 : decode (yB m_X12_clause) 48 = .ok (.aload_n 0, 1) := by decide +kernel
theorem d_X12_clause_49 : decode (yB m_X12_clause) 49 = .ok (.iconst 1, 1) := by decide +kernel
theorem d_X12_clause_50 : decode (yB m_X12_clause) 50 = .ok (.aload_n 0, 1) := by decide +kernel
theorem d_X12_clause_51 : decode (yB m_X12_clause) 51 = .ok (.getfield 122, 3) := by decide +kernel
theorem d_X12_clause_54 : decode (yB m_X12_clause) 54 = .ok (.invokevirtual 142, 3) := by decide +kernel
theorem d_X12_clause_57 : decode (yB m_X12_clause) 57 = .ok (.goto 72, 3) := by decide +kernel
theorem d_X12_clause_60 : decode (yB m_X12_clause) 60 = .ok (.aload_n 0, 1) := by decide +kernel
theorem d_X12_clause_61 : decode (yB m_X12_clause) 61 = .ok (.getfield 169, 3) := by decide +kernel
theorem d_X12_clause_64 : decode (yB m_X12_clause) 64 = .ok (.bipush 60, 2) := by decide +kernel
theorem d_X12_clause_66 : decode (yB m_X12_clause) 66 = .ok (.if_icmp .eq 31, 3) := by decide +kernel
theorem d_X12_clause_69 : decode (yB m_X12_clause) 69 = .ok (.iload_n 2, 1) := by decide +kernel
theorem d_X12_clause_70 : decode (yB m_X12_clause) 70 = .ok (.ifCond .eq 12, 3) := by decide +kernel
theorem d_X12_clause_73 : decode (yB m_X12_clause) 73 = .ok (.aload_n 0, 1) := by decide +kernel
theorem d_X12_clause_74 : decode (yB m_X12_clause) 74 = .ok (.getfield 185, 3) := by decide +kernel
theorem d_X12_clause_77 : decode (yB m_X12_clause) 77 = .ok (.bipush 12, 2) := by decide +kernel
theorem d_X12_clause_79 : decode (yB m_X12_clause) 79 = .ok (.if_icmp .eq 18, 3) := by decide +kernel
theorem d_X12_clause_82 : decode (yB m_X12_clause) 82 = .ok (.iload_n 1, 1) := by decide +kernel
theorem d_X12_clause_83 : decode (yB m_X12_clause) 83 = .ok (.bipush 8, 2) := by decide +kernel
theorem d_X12_clause_85 : decode (yB m_X12_clause) 85 = .ok (.if_icmp .ne 24, 3) := by decide +kernel
theorem d_X12_clause_88 : decode (yB m_X12_clause) 88 = .ok (.aload_n 0, 1) := by decide +kernel
theorem d_X12_clause_89 : decode (yB m_X12_clause) 89 = .ok (.getfield 188, 3) := by decide +kernel
theorem d_X12_clause_92 : decode (yB m_X12_clause) 92 = .ok (.bipush 8, 2) := by decide +kernel
theorem d_X12_clause_94 : decode (yB m_X12_clause) 94 = .ok (.if_icmp .ne 15, 3) := by decide +kernel
theorem d_X12_clause_97 : decode (yB m_X12_clause) 97 = .ok (.aload_n 0, 1) := by decide +kernel
theorem d_X12_clause_98 : decode (yB m_X12_clause) 98 = .ok (.iconst 3, 1) := by decide +kernel
theorem d_X12_clause_99 : decode (yB m_X12_clause) 99 = .ok (.aload_n 0, 1) := by decide +kernel
theorem d_X12_clause_100 : decode (yB m_X12_clause) 100 = .ok (.getfield 122, 3) := by decide +kernel
theorem d_X12_clause_103 : decode (yB m_X12_clause) 103 = .ok (.invokevirtual 142, 3) := by decide +kernel
theorem d_X12_clause_106 : decode (yB m_X12_clause) 106 = .ok (.goto 23, 3) := by decide +kernel
theorem d_X12_clause_109 : decode (yB m_X12_clause) 109 = .ok (.iload_n 1, 1) := by decide +kernel
theorem d_X12_clause_110 : decode (yB m_X12_clause) 110 = .ok (.ifCond .ne 19, 3) := by decide +kernel
theorem d_X12_clause_113 : decode (yB m_X12_clause) 113 = .ok (.aload_n 0, 1) := by decide +kernel
theorem d_X12_clause_114 : decode (yB m_X12_clause) 114 = .ok (.getfield 169, 3) := by decide +kernel
theorem d_X12_clause_117 : decode (yB m_X12_clause) 117 = .ok (.ifCond .le 12, 3) := by decide +kernel
theorem d_X12_clause_120 : decode (yB m_X12_clause) 120 = .ok (.aload_n 0, 1) := by decide +kernel
theorem d_X12_clause_121 : decode (yB m_X12_clause) 121 = .ok (.iconst 4, 1) := by decide +kernel
theorem d_X12_clause_122 : decode (yB m_X12_clause) 122 = .ok (.aload_n 0, 1) := by decide +kernel
theorem d_X12_clause_123 : decode (yB m_X12_clause) 123 = .ok (.getfield 122, 3) := by decide +kernel
theorem d_X12_clause_126 : decode (yB m_X12_clause) 126 = .ok (.invokevirtual 142, 3) := by decide +kernel
theorem d_X12_clause_129 : decode (yB m_X12_clause) 129 = .ok (.aload_n 0, 1) := by decide +kernel
theorem d_X12_clause_130 : decode (yB m_X12_clause) 130 = .ok (.getfield 129, 3) := by decide +kernel
theorem d_X12_clause_133 : decode (yB m_X12_clause) 133 = .ok (.ifCond .eq 4, 3) := by decide +kernel
theorem d_X12_clause_136 : decode (yB m_X12_clause) 136 = .ok (.return_, 1) := by decide +kernel
theorem d_X12_clause_137 : decode (yB m_X12_clause) 137 = .ok (.aload_n 0, 1) := by decide +kernel
theorem d_X12_clause_138 : decode (yB m_X12_clause) 138 = .ok (.invokevirtual 166, 3) := by decide +kernel
theorem d_X12_clause_141 : decode (yB m_X12_clause) 141 = .ok (.aload_n 0, 1) := by decide +kernel
theorem d_X12_clause_142 : decode (yB m_X12_clause) 142 = .ok (.dup, 1) := by decide +kernel
theorem d_X12_clause_143 : decode (yB m_X12_clause) 143 = .ok (.getfield 169, 3) := by decide +kernel
theorem d_X12_clause_146 : decode (yB m_X12_clause) 146 = .ok (.iconst 1, 1) := by decide +kernel
theorem d_X12_clause_147 : decode (yB m_X12_clause) 147 = .ok (.iadd, 1) := by decide +kernel
theorem d_X12_clause_148 : decode (yB m_X12_clause) 148 = .ok (.putfield 169, 3) := by decide +kernel
theorem d_X12_clause_151 : decode (yB m_X12_clause) 151 = .ok (.iload_n 1, 1) := by decide +kernel
theorem d_X12_clause_152 : decode (yB m_X12_clause) 152 = .ok (.ifCond .ne 27, 3) := by decide +kernel
theorem d_X12_clause_155 : decode (yB m_X12_clause) 155 = .ok (.aload_n 0, 1) := by decide +kernel
theorem d_X12_clause_156 : decode (yB m_X12_clause) 156 = .ok (.aload_n 0, 1) := by decide +kernel
theorem d_X12_clause_157 : decode (yB m_X12_clause) 157 = .ok (.iconst 2, 1) := by decide +kernel
theorem d_X12_clause_158 : decode (yB m_X12_clause) 158 = .ok (.bipush 6, 2) := by decide +kernel
theorem d_X12_clause_160 : decode (yB m_X12_clause) 160 = .ok (.invokevirtual 191, 3) := by decide +kernel
theorem d_X12_clause_163 : decode (yB m_X12_clause) 163 = .ok (.putfield 195, 3) := by decide +kernel
theorem d_X12_clause_166 : decode (yB m_X12_clause) 166 = .ok (.aload_n 0, 1) := by decide +kernel
theorem d_X12_clause_167 : decode (yB m_X12_clause) 167 = .ok (.aload_n 0, 1) := by decide +kernel
theorem d_X12_clause_168 : decode (yB m_X12_clause) 168 = .ok (.iconst 2, 1) := by decide +kernel
theorem d_X12_clause_169 : decode (yB m_X12_clause) 169 = .ok (.iconst 5, 1) := by decide +kernel
theorem d_X12_clause_170 : decode (yB m_X12_clause) 170 = .ok (.invokevirtual 191, 3) := by decide +kernel
theorem d_X12_clause_173 : decode (yB m_X12_clause) 173 = .ok (.putfield 198, 3) := by decide +kernel
theorem d_X12_clause_176 : decode (yB m_X12_clause) 176 = .ok (.goto 76, 3) := by decide +kernel
theorem d_X12_clause_179 : decode (yB m_X12_clause) 179 = .ok (.iload_n 2, 1) := by decide +kernel
theorem d_X12_clause_180 : decode (yB m_X12_clause) 180 = .ok (.ifCond .eq 11, 3) := by decide +kernel
theorem d_X12_clause_183 : decode (yB m_X12_clause) 183 = .ok (.aload_n 0, 1) := by decide +kernel
theorem d_X12_clause_184 : decode (yB m_X12_clause) 184 = .ok (.iload_n 1, 1) := by decide +kernel
theorem d_X12_clause_185 : decode (yB m_X12_clause) 185 = .ok (.invokevirtual 201, 3) := by decide +kernel
theorem d_X12_clause_188 : decode (yB m_X12_clause) 188 = .ok (.goto 64, 3) := by decide +kernel
theorem d_X12_clause_191 : decode (yB m_X12_clause) 191 = .ok (.iload_n 1, 1) := by decide +kernel
theorem d_X12_clause_192 : decode (yB m_X12_clause) 192 = .ok (.iconst 5, 1) := by decide +kernel
theorem d_X12_clause_193 : decode (yB m_X12_clause) 193 = .ok (.if_icmp .ge 11, 3) := by decide +kernel
theorem d_X12_clause_196 : decode (yB m_X12_clause) 196 = .ok (.aload_n 0, 1) := by decide +kernel
theorem d_X12_clause_197 : decode (yB m_X12_clause) 197 = .ok (.iload_n 1, 1) := by decide +kernel
theorem d_X12_clause_198 : decode (yB m_X12_clause) 198 = .ok (.invokevirtual 205, 3) := by decide +kernel
theorem d_X12_clause_201 : decode (yB m_X12_clause) 201 = .ok (.goto 51, 3) := by decide +kernel
theorem d_X12_clause_204 : decode (yB m_X12_clause) 204 = .ok (.iload_n 1, 1) := by decide +kernel
theorem d_X12_clause_205 : decode (yB m_X12_clause) 205 = .ok (.bipush 7, 2) := by decide +kernel
theorem d_X12_clause_207 : decode (yB m_X12_clause) 207 = .ok (.if_icmp .ne 41, 3) := by decide +kernel
theorem d_X12_clause_210 : decode (yB m_X12_clause) 210 = .ok (.aload_n 0, 1) := by decide +kernel
theorem d_X12_clause_211 : decode (yB m_X12_clause) 211 = .ok (.iconst 0, 1) := by decide +kernel
theorem d_X12_clause_212 : decode (yB m_X12_clause) 212 = .ok (.iconst 3, 1) := by decide +kernel
theorem d_X12_clause_213 : decode (yB m_X12_clause) 213 = .ok (.invokevirtual 191, 3) := by decide +kernel
theorem d_X12_clause_216 : decode (yB m_X12_clause) 216 = .ok (.istore_n 3, 1) := by decide +kernel
theorem d_X12_clause_217 : decode (yB m_X12_clause) 217 = .ok (.aload_n 0, 1) := by decide +kernel
theorem d_X12_clause_218 : decode (yB m_X12_clause) 218 = .ok (.iconst 0, 1) := by decide +kernel
theorem d_X12_clause_219 : decode (yB m_X12_clause) 219 = .ok (.aload_n 0, 1) := by decide +kernel
theorem d_X12_clause_220 : decode (yB m_X12_clause) 220 = .ok (.getfield 185, 3) := by decide +kernel
theorem d_X12_clause_223 : decode (yB m_X12_clause) 223 = .ok (.iconst 1, 1) := by decide +kernel
theorem d_X12_clause_224 : decode (yB m_X12_clause) 224 = .ok (.isub, 1) := by decide +kernel
theorem d_X12_clause_225 : decode (yB m_X12_clause) 225 = .ok (.invokevirtual 191, 3) := by decide +kernel
theorem d_X12_clause_228 : decode (yB m_X12_clause) 228 = .ok (.istore 4, 2) := by decide +kernel
theorem d_X12_clause_230 : decode (yB m_X12_clause) 230 = .ok (.aload_n 0, 1) := by decide +kernel
theorem d_X12_clause_231 : decode (yB m_X12_clause) 231 = .ok (.getfield 129, 3) := by decide +kernel
theorem d_X12_clause_234 : decode (yB m_X12_clause) 234 = .ok (.ifCond .ne 11, 3) := by decide +kernel
theorem d_X12_clause_237 : decode (yB m_X12_clause) 237 = .ok (.aload_n 0, 1) := by decide +kernel
theorem d_X12_clause_238 : decode (yB m_X12_clause) 238 = .ok (.getfield 29, 3) := by decide +kernel
theorem d_X12_clause_241 : decode (yB m_X12_clause) 241 = .ok (.iload 4, 2) := by decide +kernel
theorem d_X12_clause_243 : decode (yB m_X12_clause) 243 = .ok (.iload_n 3, 1) := by decide +kernel
theorem d_X12_clause_244 : decode (yB m_X12_clause) 244 = .ok (.iastore, 1) := by decide +kernel
theorem d_X12_clause_245 : decode (yB m_X12_clause) 245 = .ok (.goto 7, 3) := by decide +kernel
theorem d_X12_clause_248 : decode (yB m_X12_clause) 248 = .ok (.aload_n 0, 1) := by decide +kernel
theorem d_X12_clause_249 : decode (yB m_X12_clause) 249 = .ok (.invokevirtual 208, 3) := by decide +kernel
theorem d_X12_clause_252 : decode (yB m_X12_clause) 252 = .ok (.aload_n 0, 1) := by decide +kernel
theorem d_X12_clause_253 : decode (yB m_X12_clause) 253 = .ok (.bipush 59, 2) := by decide +kernel
theorem d_X12_clause_255 : decode (yB m_X12_clause) 255 = .ok (.invokevirtual 211, 3) := by decide +kernel
theorem d_X12_clause_258 : decode (yB m_X12_clause) 258 = .ok (.return_, 1) := by decide +kernel
def fn_X12_clause_129  (v1 : Int32) (v2 : Int32) (D : zD) : Option zD := (if (gI D 102 5) = 0 then ((fn_X12_skipWord D).bind fun D6 => zlet (sI D6 102 7 ((gI D6 102 7) + (1 : Int32))) fun D7 => (if v1 = 0 then ((fn_X12_number (2 : Int32) (6 : Int32) D7).bind fun q25 => zlet (sI q25.2 102 10 q25.1) fun D26 => (fn_X12_number (2 : Int32) (5 : Int32) D26).bind fun q27 => zlet (sI q27.2 102 11 q27.1) fun D28 => (fn_X12_closes (59 : Int32) D28).bind fun D29 => (some D29)) else ((if v2 = 0 then ((if (5 : Int32) ≤ v1 then ((if v1 = (7 : Int32) then ((fn_X12_number (0 : Int32) (3 : Int32) D7).bind fun q14 => (fn_X12_number (0 : Int32) ((gI q14.2 102 12) - (1 : Int32)) q14.2).bind fun q15 => (if (gI q15.2 102 5) = 0 then (zck q15.1 12 <| zlet (sI q15.2 106 q15.1.toNatClampNeg q14.1) fun D19 => (fn_X12_closes (59 : Int32) D19).bind fun D20 => (some D20)) else ((fn_X12_closes (59 : Int32) q15.2).bind fun D17 => (some D17)))) else ((fn_X12_readsWord D7).bind fun D12 => (fn_X12_closes (59 : Int32) D12).bind fun D13 => (some D13)))) else ((fn_X12_readsStroke v1 D7).bind fun D21 => (fn_X12_closes (59 : Int32) D21).bind fun D22 => (some D22)))) else ((fn_X12_readsSign v1 D7).bind fun D23 => (fn_X12_closes (59 : Int32) D23).bind fun D24 => (some D24)))))) else ((some D)))
def fn_X12_clause_48  (v1 : Int32) (v2 : Int32) (D : zD) : Option zD := (fn_X12_wrong (1 : Int32) (gI D 102 4) D).bind fun D4 => (fn_X12_clause_129 v1 v2 D4)
def fn_X12_clause_97  (v1 : Int32) (v2 : Int32) (D : zD) : Option zD := (fn_X12_wrong (3 : Int32) (gI D 102 4) D).bind fun D33 => (fn_X12_clause_129 v1 v2 D33)
def fn_X12_clause_109  (v1 : Int32) (v2 : Int32) (D : zD) : Option zD := (if v1 = 0 then ((if (gI D 102 7) ≤ 0 then ((fn_X12_clause_129 v1 v2 D)) else ((fn_X12_wrong (4 : Int32) (gI D 102 4) D).bind fun D38 => (fn_X12_clause_129 v1 v2 D38)))) else ((fn_X12_clause_129 v1 v2 D)))
def fn_X12_clause_82  (v1 : Int32) (v2 : Int32) (D : zD) : Option zD := (if v1 = (8 : Int32) then ((if (gI D 102 13) = (8 : Int32) then ((fn_X12_clause_97 v1 v2 D)) else ((fn_X12_clause_109 v1 v2 D)))) else ((fn_X12_clause_109 v1 v2 D)))
def fn_X12_clause_60  (v1 : Int32) (v2 : Int32) (D : zD) : Option zD := (if (gI D 102 7) = (60 : Int32) then ((fn_X12_clause_97 v1 v2 D)) else ((if v2 = 0 then ((fn_X12_clause_82 v1 v2 D)) else ((if (gI D 102 12) = (12 : Int32) then ((fn_X12_clause_97 v1 v2 D)) else ((fn_X12_clause_82 v1 v2 D)))))))
def fn_X12_clause_26  (v1 : Int32) (w0 : Int32) (D : zD) : Option zD := (if v1 = (-1 : Int32) then ((fn_X12_clause_48 v1 w0 D)) else ((fn_X12_in v1 (2 : Int32) (4 : Int32)).bind fun x30 => (if x30 = 0 then ((fn_X12_clause_60 v1 w0 D)) else ((if (gI D 102 12) = 0 then ((fn_X12_clause_48 v1 w0 D)) else ((fn_X12_clause_60 v1 w0 D)))))))
def fn_X12_clause_21  (v1 : Int32) (D : zD) : Option zD := (fn_X12_clause_26 v1 (1 : Int32) D)
def fn_X12_clause (D : zD) : Option zD := (fn_X12_kindHere D).bind fun q1 => (if q1.1 = (1 : Int32) then ((fn_X12_clause_21 q1.1 q1.2)) else ((if q1.1 = (5 : Int32) then ((fn_X12_clause_21 q1.1 q1.2)) else ((if q1.1 = (6 : Int32) then ((fn_X12_clause_21 q1.1 q1.2)) else ((fn_X12_clause_26 q1.1 (0 : Int32) q1.2)))))))
theorem s_X12_clause_129 {X : zX} {Sh : zSh} {d : Nat} (hst : (zl X).stackTraces = false) (h0 : zSh0 Sh) (hd : 5 ≤ d)  (v1 : Int32) (v2 : Int32) (D : zD)  : Rn X m_X12_clause (d + 1) 129 [(0, .ref 102), (1, .int v1), (2, .int v2)] [] (Sh, D) ((oV Sh) (fn_X12_clause_129  v1 v2 D)) := by
  rw [fn_X12_clause_129]
  refine r_aload_n (pc := 129) 0 d_X12_clause_129 rfl rfl ?_
  refine q_gI (pc := 130) g_X12_129 (K_102 h0) rfl d_X12_clause_130 ?_
  refine r_if_eq (f := (oV Sh)) (pc := 133) 137 d_X12_clause_133 (by decide) (fun c5 => ?_) (fun c5 => ?_)
  · refine r_aload_n (pc := 137) 0 d_X12_clause_137 rfl rfl ?_
    refine q_cV (f := (oV Sh)) (av := [.ref 102]) (st := []) (z_runV ck_X12_skipWord rfl ml_X12_166 ci_X12_skipWord cv_X12_skipWord (K_102 h0) (ci := 12) rfl rfl (Nat.le_of_ble_eq_true rfl) d_X12_clause_138) (s_X12_skipWord hst h0 (by omega)) kp_V (fun D6 _ => ?_)
    refine r_aload_n (pc := 141) 0 d_X12_clause_141 rfl rfl ?_
    refine r_dup (pc := 142) d_X12_clause_142 rfl ?_
    refine q_gI (pc := 143) g_X12_169 (K_102 h0) rfl d_X12_clause_143 ?_
    refine r_iconst (pc := 146) (1 : Int32) d_X12_clause_146 rfl ?_
    refine r_iadd (pc := 147) d_X12_clause_147 ?_
    refine r_putI (pc := 148) p_X12_169 (K_102 h0) rfl (Or.inl rfl) d_X12_clause_148 ?_
    refine r_letD (f := (oV Sh)) (fun D7 => ?_)
    refine r_iload_n (pc := 151) 1 d_X12_clause_151 rfl rfl ?_
    refine r_if_ne (f := (oV Sh)) (pc := 152) 179 d_X12_clause_152 (by decide) (fun c8 => ?_) (fun c8 => ?_)
    · refine r_iload_n (pc := 179) 2 d_X12_clause_179 rfl rfl ?_
      refine r_if_eq (f := (oV Sh)) (pc := 180) 191 d_X12_clause_180 (by decide) (fun c9 => ?_) (fun c9 => ?_)
      · refine r_iload_n (pc := 191) 1 d_X12_clause_191 rfl rfl ?_
        refine r_iconst (pc := 192) (5 : Int32) d_X12_clause_192 rfl ?_
        refine r_icmp_ge (f := (oV Sh)) (pc := 193) 204 d_X12_clause_193 (by decide) (fun c10 => ?_) (fun c10 => ?_)
        · refine r_iload_n (pc := 204) 1 d_X12_clause_204 rfl rfl ?_
          refine r_bipush (pc := 205) (7 : Int32) d_X12_clause_205 rfl ?_
          refine r_icmp_ne (f := (oV Sh)) (pc := 207) 248 d_X12_clause_207 (by decide) (fun c11 => ?_) (fun c11 => ?_)
          · refine r_aload_n (pc := 248) 0 d_X12_clause_248 rfl rfl ?_
            refine q_cV (f := (oV Sh)) (av := [.ref 102]) (st := []) (z_runV ck_X12_readsWord rfl ml_X12_208 ci_X12_readsWord cv_X12_readsWord (K_102 h0) (ci := 12) rfl rfl (Nat.le_of_ble_eq_true rfl) d_X12_clause_249) (s_X12_readsWord hst h0 (by omega)) kp_V (fun D12 _ => ?_)
            refine r_aload_n (pc := 252) 0 d_X12_clause_252 rfl rfl ?_
            refine r_bipush (pc := 253) (59 : Int32) d_X12_clause_253 rfl ?_
            refine q_cV (f := (oV Sh)) (av := [.ref 102, .int (59 : Int32)]) (st := []) (z_runV ck_X12_closes rfl ml_X12_211 ci_X12_closes cv_X12_closes (K_102 h0) (ci := 12) rfl rfl (Nat.le_of_ble_eq_true rfl) d_X12_clause_255) (s_X12_closes hst h0 (by omega)) kp_V (fun D13 _ => ?_)
            exact r_vret (pc := 258) rfl d_X12_clause_258
          · refine r_aload_n (pc := 210) 0 d_X12_clause_210 rfl rfl ?_
            refine r_iconst (pc := 211) (0 : Int32) d_X12_clause_211 rfl ?_
            refine r_iconst (pc := 212) (3 : Int32) d_X12_clause_212 rfl ?_
            refine q_cI (f := (oV Sh)) (av := [.ref 102, .int (0 : Int32), .int (3 : Int32)]) (st := []) (z_runV ck_X12_number rfl ml_X12_191 ci_X12_number cv_X12_number (K_102 h0) (ci := 12) rfl rfl (Nat.le_of_ble_eq_true rfl) d_X12_clause_213) (s_X12_number hst h0 (by omega)) kp_V (fun q14 _ => ?_)
            refine r_istore_n (pc := 216) (ls' := [(3, .int q14.1), (0, .ref 102), (1, .int v1), (2, .int v2)]) d_X12_clause_216 rfl (Nat.le_of_ble_eq_true rfl) rfl ?_
            refine r_aload_n (pc := 217) 1 d_X12_clause_217 rfl rfl ?_
            refine r_iconst (pc := 218) (0 : Int32) d_X12_clause_218 rfl ?_
            refine r_aload_n (pc := 219) 1 d_X12_clause_219 rfl rfl ?_
            refine q_gI (pc := 220) g_X12_185 (K_102 h0) rfl d_X12_clause_220 ?_
            refine r_iconst (pc := 223) (1 : Int32) d_X12_clause_223 rfl ?_
            refine r_isub (pc := 224) d_X12_clause_224 ?_
            refine q_cI (f := (oV Sh)) (av := [.ref 102, .int (0 : Int32), .int ((gI q14.2 102 12) - (1 : Int32))]) (st := []) (z_runV ck_X12_number rfl ml_X12_191 ci_X12_number cv_X12_number (K_102 h0) (ci := 12) rfl rfl (Nat.le_of_ble_eq_true rfl) d_X12_clause_225) (s_X12_number hst h0 (by omega)) kp_V (fun q15 _ => ?_)
            refine r_istore (pc := 228) (ls' := [(4, .int q15.1), (3, .int q14.1), (0, .ref 102), (1, .int v1), (2, .int v2)]) d_X12_clause_228 (Nat.le_of_ble_eq_true rfl) rfl ?_
            refine r_aload_n (pc := 230) 2 d_X12_clause_230 rfl rfl ?_
            refine q_gI (pc := 231) g_X12_129 (K_102 h0) rfl d_X12_clause_231 ?_
            refine r_if_ne (f := (oV Sh)) (pc := 234) 245 d_X12_clause_234 (by decide) (fun c16 => ?_) (fun c16 => ?_)
            · refine r_goto (pc := 245) 252 d_X12_clause_245 (by decide) ?_
              refine r_aload_n (pc := 252) 2 d_X12_clause_252 rfl rfl ?_
              refine r_bipush (pc := 253) (59 : Int32) d_X12_clause_253 rfl ?_
              refine q_cV (f := (oV Sh)) (av := [.ref 102, .int (59 : Int32)]) (st := []) (z_runV ck_X12_closes rfl ml_X12_211 ci_X12_closes cv_X12_closes (K_102 h0) (ci := 12) rfl rfl (Nat.le_of_ble_eq_true rfl) d_X12_clause_255) (s_X12_closes hst h0 (by omega)) kp_V (fun D17 _ => ?_)
              exact r_vret (pc := 258) rfl d_X12_clause_258
            · refine r_aload_n (pc := 237) 2 d_X12_clause_237 rfl rfl ?_
              refine r_getR (pc := 238) g_X12_29 (K_102 h0) rfl (R_102_20 h0) d_X12_clause_238 ?_
              refine r_iload (pc := 241) 0 d_X12_clause_241 rfl ?_
              refine r_iload_n (pc := 243) 1 d_X12_clause_243 rfl rfl ?_
              refine r_ck (f := (oV Sh)) rfl (fun hc18 => ?_)
              refine q_iast (pc := 244) (j := q15.1.toNatClampNeg) (K_106 h0) hc18 rfl  d_X12_clause_244 ?_
              refine r_letD (f := (oV Sh)) (fun D19 => ?_)
              refine r_goto (pc := 245) 252 d_X12_clause_245 (by decide) ?_
              refine r_aload_n (pc := 252) 2 d_X12_clause_252 rfl rfl ?_
              refine r_bipush (pc := 253) (59 : Int32) d_X12_clause_253 rfl ?_
              refine q_cV (f := (oV Sh)) (av := [.ref 102, .int (59 : Int32)]) (st := []) (z_runV ck_X12_closes rfl ml_X12_211 ci_X12_closes cv_X12_closes (K_102 h0) (ci := 12) rfl rfl (Nat.le_of_ble_eq_true rfl) d_X12_clause_255) (s_X12_closes hst h0 (by omega)) kp_V (fun D20 _ => ?_)
              exact r_vret (pc := 258) rfl d_X12_clause_258
        · refine r_aload_n (pc := 196) 0 d_X12_clause_196 rfl rfl ?_
          refine r_iload_n (pc := 197) 1 d_X12_clause_197 rfl rfl ?_
          refine q_cV (f := (oV Sh)) (av := [.ref 102, .int v1]) (st := []) (z_runV ck_X12_readsStroke rfl ml_X12_205 ci_X12_readsStroke cv_X12_readsStroke (K_102 h0) (ci := 12) rfl rfl (Nat.le_of_ble_eq_true rfl) d_X12_clause_198) (s_X12_readsStroke hst h0 (by omega)) kp_V (fun D21 _ => ?_)
          refine r_goto (pc := 201) 252 d_X12_clause_201 (by decide) ?_
          refine r_aload_n (pc := 252) 0 d_X12_clause_252 rfl rfl ?_
          refine r_bipush (pc := 253) (59 : Int32) d_X12_clause_253 rfl ?_
          refine q_cV (f := (oV Sh)) (av := [.ref 102, .int (59 : Int32)]) (st := []) (z_runV ck_X12_closes rfl ml_X12_211 ci_X12_closes cv_X12_closes (K_102 h0) (ci := 12) rfl rfl (Nat.le_of_ble_eq_true rfl) d_X12_clause_255) (s_X12_closes hst h0 (by omega)) kp_V (fun D22 _ => ?_)
          exact r_vret (pc := 258) rfl d_X12_clause_258
      · refine r_aload_n (pc := 183) 0 d_X12_clause_183 rfl rfl ?_
        refine r_iload_n (pc := 184) 1 d_X12_clause_184 rfl rfl ?_
        refine q_cV (f := (oV Sh)) (av := [.ref 102, .int v1]) (st := []) (z_runV ck_X12_readsSign rfl ml_X12_201 ci_X12_readsSign cv_X12_readsSign (K_102 h0) (ci := 12) rfl rfl (Nat.le_of_ble_eq_true rfl) d_X12_clause_185) (s_X12_readsSign hst h0 (by omega)) kp_V (fun D23 _ => ?_)
        refine r_goto (pc := 188) 252 d_X12_clause_188 (by decide) ?_
        refine r_aload_n (pc := 252) 0 d_X12_clause_252 rfl rfl ?_
        refine r_bipush (pc := 253) (59 : Int32) d_X12_clause_253 rfl ?_
        refine q_cV (f := (oV Sh)) (av := [.ref 102, .int (59 : Int32)]) (st := []) (z_runV ck_X12_closes rfl ml_X12_211 ci_X12_closes cv_X12_closes (K_102 h0) (ci := 12) rfl rfl (Nat.le_of_ble_eq_true rfl) d_X12_clause_255) (s_X12_closes hst h0 (by omega)) kp_V (fun D24 _ => ?_)
        exact r_vret (pc := 258) rfl d_X12_clause_258
    · refine r_aload_n (pc := 155) 0 d_X12_clause_155 rfl rfl ?_
      refine r_aload_n (pc := 156) 0 d_X12_clause_156 rfl rfl ?_
      refine r_iconst (pc := 157) (2 : Int32) d_X12_clause_157 rfl ?_
      refine r_bipush (pc := 158) (6 : Int32) d_X12_clause_158 rfl ?_
      refine q_cI (f := (oV Sh)) (av := [.ref 102, .int (2 : Int32), .int (6 : Int32)]) (st := [.ref 102]) (z_runV ck_X12_number rfl ml_X12_191 ci_X12_number cv_X12_number (K_102 h0) (ci := 12) rfl rfl (Nat.le_of_ble_eq_true rfl) d_X12_clause_160) (s_X12_number hst h0 (by omega)) kp_V (fun q25 _ => ?_)
      refine r_putI (pc := 163) p_X12_195 (K_102 h0) rfl (Or.inl rfl) d_X12_clause_163 ?_
      refine r_letD (f := (oV Sh)) (fun D26 => ?_)
      refine r_aload_n (pc := 166) 0 d_X12_clause_166 rfl rfl ?_
      refine r_aload_n (pc := 167) 0 d_X12_clause_167 rfl rfl ?_
      refine r_iconst (pc := 168) (2 : Int32) d_X12_clause_168 rfl ?_
      refine r_iconst (pc := 169) (5 : Int32) d_X12_clause_169 rfl ?_
      refine q_cI (f := (oV Sh)) (av := [.ref 102, .int (2 : Int32), .int (5 : Int32)]) (st := [.ref 102]) (z_runV ck_X12_number rfl ml_X12_191 ci_X12_number cv_X12_number (K_102 h0) (ci := 12) rfl rfl (Nat.le_of_ble_eq_true rfl) d_X12_clause_170) (s_X12_number hst h0 (by omega)) kp_V (fun q27 _ => ?_)
      refine r_putI (pc := 173) p_X12_198 (K_102 h0) rfl (Or.inl rfl) d_X12_clause_173 ?_
      refine r_letD (f := (oV Sh)) (fun D28 => ?_)
      refine r_goto (pc := 176) 252 d_X12_clause_176 (by decide) ?_
      refine r_aload_n (pc := 252) 0 d_X12_clause_252 rfl rfl ?_
      refine r_bipush (pc := 253) (59 : Int32) d_X12_clause_253 rfl ?_
      refine q_cV (f := (oV Sh)) (av := [.ref 102, .int (59 : Int32)]) (st := []) (z_runV ck_X12_closes rfl ml_X12_211 ci_X12_closes cv_X12_closes (K_102 h0) (ci := 12) rfl rfl (Nat.le_of_ble_eq_true rfl) d_X12_clause_255) (s_X12_closes hst h0 (by omega)) kp_V (fun D29 _ => ?_)
      exact r_vret (pc := 258) rfl d_X12_clause_258
  · exact r_vret (pc := 136) rfl d_X12_clause_136
theorem s_X12_clause_48 {X : zX} {Sh : zSh} {d : Nat} (hst : (zl X).stackTraces = false) (h0 : zSh0 Sh) (hd : 5 ≤ d)  (v1 : Int32) (v2 : Int32) (D : zD)  : Rn X m_X12_clause (d + 1) 48 [(0, .ref 102), (1, .int v1), (2, .int v2)] [] (Sh, D) ((oV Sh) (fn_X12_clause_48  v1 v2 D)) := by
  rw [fn_X12_clause_48]
  refine r_aload_n (pc := 48) 0 d_X12_clause_48 rfl rfl ?_
  refine r_iconst (pc := 49) (1 : Int32) d_X12_clause_49 rfl ?_
  refine r_aload_n (pc := 50) 0 d_X12_clause_50 rfl rfl ?_
  refine q_gI (pc := 51) g_X12_122 (K_102 h0) rfl d_X12_clause_51 ?_
  refine q_cV (f := (oV Sh)) (av := [.ref 102, .int (1 : Int32), .int (gI D 102 4)]) (st := []) (z_runV ck_X12_wrong rfl ml_X12_142 ci_X12_wrong cv_X12_wrong (K_102 h0) (ci := 12) rfl rfl (Nat.le_of_ble_eq_true rfl) d_X12_clause_54) (s_X12_wrong hst h0 (by omega)) kp_V (fun D4 _ => ?_)
  refine r_goto (pc := 57) 129 d_X12_clause_57 (by decide) ?_
  refine r_pick [0, 1, 2] (ls' := [(0, .ref 102), (1, .int v1), (2, .int v2)]) rfl ?_
  exact s_X12_clause_129 hst h0 hd v1 v2 D4
theorem s_X12_clause_97 {X : zX} {Sh : zSh} {d : Nat} (hst : (zl X).stackTraces = false) (h0 : zSh0 Sh) (hd : 5 ≤ d)  (v1 : Int32) (v2 : Int32) (D : zD)  : Rn X m_X12_clause (d + 1) 97 [(0, .ref 102), (1, .int v1), (2, .int v2)] [] (Sh, D) ((oV Sh) (fn_X12_clause_97  v1 v2 D)) := by
  rw [fn_X12_clause_97]
  refine r_aload_n (pc := 97) 0 d_X12_clause_97 rfl rfl ?_
  refine r_iconst (pc := 98) (3 : Int32) d_X12_clause_98 rfl ?_
  refine r_aload_n (pc := 99) 0 d_X12_clause_99 rfl rfl ?_
  refine q_gI (pc := 100) g_X12_122 (K_102 h0) rfl d_X12_clause_100 ?_
  refine q_cV (f := (oV Sh)) (av := [.ref 102, .int (3 : Int32), .int (gI D 102 4)]) (st := []) (z_runV ck_X12_wrong rfl ml_X12_142 ci_X12_wrong cv_X12_wrong (K_102 h0) (ci := 12) rfl rfl (Nat.le_of_ble_eq_true rfl) d_X12_clause_103) (s_X12_wrong hst h0 (by omega)) kp_V (fun D33 _ => ?_)
  refine r_goto (pc := 106) 129 d_X12_clause_106 (by decide) ?_
  refine r_pick [0, 1, 2] (ls' := [(0, .ref 102), (1, .int v1), (2, .int v2)]) rfl ?_
  exact s_X12_clause_129 hst h0 hd v1 v2 D33
theorem s_X12_clause_109 {X : zX} {Sh : zSh} {d : Nat} (hst : (zl X).stackTraces = false) (h0 : zSh0 Sh) (hd : 5 ≤ d)  (v1 : Int32) (v2 : Int32) (D : zD)  : Rn X m_X12_clause (d + 1) 109 [(0, .ref 102), (1, .int v1), (2, .int v2)] [] (Sh, D) ((oV Sh) (fn_X12_clause_109  v1 v2 D)) := by
  rw [fn_X12_clause_109]
  refine r_iload_n (pc := 109) 1 d_X12_clause_109 rfl rfl ?_
  refine r_if_ne (f := (oV Sh)) (pc := 110) 129 d_X12_clause_110 (by decide) (fun c36 => ?_) (fun c36 => ?_)
  · refine r_pick [0, 1, 2] (ls' := [(0, .ref 102), (1, .int v1), (2, .int v2)]) rfl ?_
    exact s_X12_clause_129 hst h0 hd v1 v2 D
  · refine r_aload_n (pc := 113) 0 d_X12_clause_113 rfl rfl ?_
    refine q_gI (pc := 114) g_X12_169 (K_102 h0) rfl d_X12_clause_114 ?_
    refine r_if_le (f := (oV Sh)) (pc := 117) 129 d_X12_clause_117 (by decide) (fun c37 => ?_) (fun c37 => ?_)
    · refine r_pick [0, 1, 2] (ls' := [(0, .ref 102), (1, .int v1), (2, .int v2)]) rfl ?_
      exact s_X12_clause_129 hst h0 hd v1 v2 D
    · refine r_aload_n (pc := 120) 0 d_X12_clause_120 rfl rfl ?_
      refine r_iconst (pc := 121) (4 : Int32) d_X12_clause_121 rfl ?_
      refine r_aload_n (pc := 122) 0 d_X12_clause_122 rfl rfl ?_
      refine q_gI (pc := 123) g_X12_122 (K_102 h0) rfl d_X12_clause_123 ?_
      refine q_cV (f := (oV Sh)) (av := [.ref 102, .int (4 : Int32), .int (gI D 102 4)]) (st := []) (z_runV ck_X12_wrong rfl ml_X12_142 ci_X12_wrong cv_X12_wrong (K_102 h0) (ci := 12) rfl rfl (Nat.le_of_ble_eq_true rfl) d_X12_clause_126) (s_X12_wrong hst h0 (by omega)) kp_V (fun D38 _ => ?_)
      refine r_pick [0, 1, 2] (ls' := [(0, .ref 102), (1, .int v1), (2, .int v2)]) rfl ?_
      exact s_X12_clause_129 hst h0 hd v1 v2 D38
theorem s_X12_clause_82 {X : zX} {Sh : zSh} {d : Nat} (hst : (zl X).stackTraces = false) (h0 : zSh0 Sh) (hd : 5 ≤ d)  (v1 : Int32) (v2 : Int32) (D : zD)  : Rn X m_X12_clause (d + 1) 82 [(0, .ref 102), (1, .int v1), (2, .int v2)] [] (Sh, D) ((oV Sh) (fn_X12_clause_82  v1 v2 D)) := by
  rw [fn_X12_clause_82]
  refine r_iload_n (pc := 82) 1 d_X12_clause_82 rfl rfl ?_
  refine r_bipush (pc := 83) (8 : Int32) d_X12_clause_83 rfl ?_
  refine r_icmp_ne (f := (oV Sh)) (pc := 85) 109 d_X12_clause_85 (by decide) (fun c35 => ?_) (fun c35 => ?_)
  · refine r_pick [0, 1, 2] (ls' := [(0, .ref 102), (1, .int v1), (2, .int v2)]) rfl ?_
    exact s_X12_clause_109 hst h0 hd v1 v2 D
  · refine r_aload_n (pc := 88) 0 d_X12_clause_88 rfl rfl ?_
    refine q_gI (pc := 89) g_X12_188 (K_102 h0) rfl d_X12_clause_89 ?_
    refine r_bipush (pc := 92) (8 : Int32) d_X12_clause_92 rfl ?_
    refine r_icmp_ne (f := (oV Sh)) (pc := 94) 109 d_X12_clause_94 (by decide) (fun c39 => ?_) (fun c39 => ?_)
    · refine r_pick [0, 1, 2] (ls' := [(0, .ref 102), (1, .int v1), (2, .int v2)]) rfl ?_
      exact s_X12_clause_109 hst h0 hd v1 v2 D
    · refine r_pick [0, 1, 2] (ls' := [(0, .ref 102), (1, .int v1), (2, .int v2)]) rfl ?_
      exact s_X12_clause_97 hst h0 hd v1 v2 D
theorem s_X12_clause_60 {X : zX} {Sh : zSh} {d : Nat} (hst : (zl X).stackTraces = false) (h0 : zSh0 Sh) (hd : 5 ≤ d)  (v1 : Int32) (v2 : Int32) (D : zD)  : Rn X m_X12_clause (d + 1) 60 [(0, .ref 102), (1, .int v1), (2, .int v2)] [] (Sh, D) ((oV Sh) (fn_X12_clause_60  v1 v2 D)) := by
  rw [fn_X12_clause_60]
  refine r_aload_n (pc := 60) 0 d_X12_clause_60 rfl rfl ?_
  refine q_gI (pc := 61) g_X12_169 (K_102 h0) rfl d_X12_clause_61 ?_
  refine r_bipush (pc := 64) (60 : Int32) d_X12_clause_64 rfl ?_
  refine r_icmp_eq (f := (oV Sh)) (pc := 66) 97 d_X12_clause_66 (by decide) (fun c32 => ?_) (fun c32 => ?_)
  · refine r_pick [0, 1, 2] (ls' := [(0, .ref 102), (1, .int v1), (2, .int v2)]) rfl ?_
    exact s_X12_clause_97 hst h0 hd v1 v2 D
  · refine r_iload_n (pc := 69) 2 d_X12_clause_69 rfl rfl ?_
    refine r_if_eq (f := (oV Sh)) (pc := 70) 82 d_X12_clause_70 (by decide) (fun c34 => ?_) (fun c34 => ?_)
    · refine r_pick [0, 1, 2] (ls' := [(0, .ref 102), (1, .int v1), (2, .int v2)]) rfl ?_
      exact s_X12_clause_82 hst h0 hd v1 v2 D
    · refine r_aload_n (pc := 73) 0 d_X12_clause_73 rfl rfl ?_
      refine q_gI (pc := 74) g_X12_185 (K_102 h0) rfl d_X12_clause_74 ?_
      refine r_bipush (pc := 77) (12 : Int32) d_X12_clause_77 rfl ?_
      refine r_icmp_eq (f := (oV Sh)) (pc := 79) 97 d_X12_clause_79 (by decide) (fun c40 => ?_) (fun c40 => ?_)
      · refine r_pick [0, 1, 2] (ls' := [(0, .ref 102), (1, .int v1), (2, .int v2)]) rfl ?_
        exact s_X12_clause_97 hst h0 hd v1 v2 D
      · refine r_pick [0, 1, 2] (ls' := [(0, .ref 102), (1, .int v1), (2, .int v2)]) rfl ?_
        exact s_X12_clause_82 hst h0 hd v1 v2 D
theorem s_X12_clause_26 {X : zX} {Sh : zSh} {d : Nat} (hst : (zl X).stackTraces = false) (h0 : zSh0 Sh) (hd : 5 ≤ d)  (v1 : Int32) (w0 : Int32) (D : zD)  : Rn X m_X12_clause (d + 1) 26 [(0, .ref 102), (1, .int v1)] [.int w0] (Sh, D) ((oV Sh) (fn_X12_clause_26  v1 w0 D)) := by
  rw [fn_X12_clause_26]
  refine r_istore_n (pc := 26) (ls' := [(2, .int w0), (0, .ref 102), (1, .int v1)]) d_X12_clause_26 rfl (Nat.le_of_ble_eq_true rfl) rfl ?_
  refine r_iload_n (pc := 27) 2 d_X12_clause_27 rfl rfl ?_
  refine r_iconst (pc := 28) (-1 : Int32) d_X12_clause_28 rfl ?_
  refine r_icmp_eq (f := (oV Sh)) (pc := 29) 48 d_X12_clause_29 (by decide) (fun c3 => ?_) (fun c3 => ?_)
  · refine r_pick [1, 2, 0] (ls' := [(0, .ref 102), (1, .int v1), (2, .int w0)]) rfl ?_
    exact s_X12_clause_48 hst h0 hd v1 w0 D
  · refine r_iload_n (pc := 32) 2 d_X12_clause_32 rfl rfl ?_
    refine r_iconst (pc := 33) (2 : Int32) d_X12_clause_33 rfl ?_
    refine r_iconst (pc := 34) (4 : Int32) d_X12_clause_34 rfl ?_
    refine q_cP (f := (oV Sh)) (av := [.int v1, .int (2 : Int32), .int (4 : Int32)]) (st := []) (z_runS ck_X12_in rfl ml_X12_147 cs_X12_in rfl (Nat.le_of_ble_eq_true rfl) d_X12_clause_35) (s_X12_in hst h0 (by omega)) kp_V (fun x30 _ => ?_)
    refine r_if_eq (f := (oV Sh)) (pc := 38) 60 d_X12_clause_38 (by decide) (fun c31 => ?_) (fun c31 => ?_)
    · refine r_pick [1, 2, 0] (ls' := [(0, .ref 102), (1, .int v1), (2, .int w0)]) rfl ?_
      exact s_X12_clause_60 hst h0 hd v1 w0 D
    · refine r_aload_n (pc := 41) 1 d_X12_clause_41 rfl rfl ?_
      refine q_gI (pc := 42) g_X12_185 (K_102 h0) rfl d_X12_clause_42 ?_
      refine r_if_ne (f := (oV Sh)) (pc := 45) 60 d_X12_clause_45 (by decide) (fun c41 => ?_) (fun c41 => ?_)
      · refine r_pick [1, 2, 0] (ls' := [(0, .ref 102), (1, .int v1), (2, .int w0)]) rfl ?_
        exact s_X12_clause_60 hst h0 hd v1 w0 D
      · refine r_pick [1, 2, 0] (ls' := [(0, .ref 102), (1, .int v1), (2, .int w0)]) rfl ?_
        exact s_X12_clause_48 hst h0 hd v1 w0 D
theorem s_X12_clause_21 {X : zX} {Sh : zSh} {d : Nat} (hst : (zl X).stackTraces = false) (h0 : zSh0 Sh) (hd : 5 ≤ d)  (v1 : Int32) (D : zD)  : Rn X m_X12_clause (d + 1) 21 [(0, .ref 102), (1, .int v1)] [] (Sh, D) ((oV Sh) (fn_X12_clause_21  v1 D)) := by
  rw [fn_X12_clause_21]
  refine r_iconst (pc := 21) (1 : Int32) d_X12_clause_21 rfl ?_
  refine r_goto (pc := 22) 26 d_X12_clause_22 (by decide) ?_
  refine r_pick [0, 1] (ls' := [(0, .ref 102), (1, .int v1)]) rfl ?_
  exact s_X12_clause_26 hst h0 hd v1 (1 : Int32) D
theorem s_X12_clause {X : zX} {Sh : zSh} {d : Nat} (hst : (zl X).stackTraces = false) (h0 : zSh0 Sh) (hd : 6 ≤ d)  {D : zD} : Sd X m_X12_clause d [.ref 102] (Sh, D) ((oV Sh) (fn_X12_clause D)) := by
  obtain ⟨d, rfl⟩ : ∃ e, d = e + 1 := ⟨d - 1, by omega⟩
  replace hd : 5 ≤ d := by omega
  refine z_body ck_X12_clause rfl (Nat.le_of_ble_eq_true rfl) rfl hst ?_
  rw [fn_X12_clause]
  show Rn X m_X12_clause (d + 1) 0 [(0, .ref 102)] [] (Sh, D) _
  refine r_aload_n (pc := 0) 0 d_X12_clause_0 rfl rfl ?_
  refine q_cI (f := (oV Sh)) (av := [.ref 102]) (st := []) (z_runV ck_X12_kindHere rfl ml_X12_182 ci_X12_kindHere cv_X12_kindHere (K_102 h0) (ci := 12) rfl rfl (Nat.le_of_ble_eq_true rfl) d_X12_clause_1) (s_X12_kindHere hst h0 (by omega)) kp_V (fun q1 _ => ?_)
  refine r_istore_n (pc := 4) (ls' := [(1, .int q1.1), (0, .ref 102)]) d_X12_clause_4 rfl (Nat.le_of_ble_eq_true rfl) rfl ?_
  refine r_iload_n (pc := 5) 0 d_X12_clause_5 rfl rfl ?_
  refine r_iconst (pc := 6) (1 : Int32) d_X12_clause_6 rfl ?_
  refine r_icmp_eq (f := (oV Sh)) (pc := 7) 21 d_X12_clause_7 (by decide) (fun c2 => ?_) (fun c2 => ?_)
  · refine r_pick [1, 0] (ls' := [(0, .ref 102), (1, .int q1.1)]) rfl ?_
    exact s_X12_clause_21 hst h0 hd q1.1 q1.2
  · refine r_iload_n (pc := 10) 0 d_X12_clause_10 rfl rfl ?_
    refine r_iconst (pc := 11) (5 : Int32) d_X12_clause_11 rfl ?_
    refine r_icmp_eq (f := (oV Sh)) (pc := 12) 21 d_X12_clause_12 (by decide) (fun c42 => ?_) (fun c42 => ?_)
    · refine r_pick [1, 0] (ls' := [(0, .ref 102), (1, .int q1.1)]) rfl ?_
      exact s_X12_clause_21 hst h0 hd q1.1 q1.2
    · refine r_iload_n (pc := 15) 0 d_X12_clause_15 rfl rfl ?_
      refine r_bipush (pc := 16) (6 : Int32) d_X12_clause_16 rfl ?_
      refine r_icmp_ne (f := (oV Sh)) (pc := 18) 25 d_X12_clause_18 (by decide) (fun c43 => ?_) (fun c43 => ?_)
      · refine r_iconst (pc := 25) (0 : Int32) d_X12_clause_25 rfl ?_
        refine r_pick [1, 0] (ls' := [(0, .ref 102), (1, .int q1.1)]) rfl ?_
        exact s_X12_clause_26 hst h0 hd q1.1 (0 : Int32) q1.2
      · refine r_pick [1, 0] (ls' := [(0, .ref 102), (1, .int q1.1)]) rfl ?_
        exact s_X12_clause_21 hst h0 hd q1.1 q1.2
/-! CoveredSignsModel.alphabet -/
theorem d_X12_alphabet_0 : decode (yB m_X12_alphabet) 0 = .ok (.aload_n 0, 1) := by decide +kernel
theorem d_X12_alphabet_1 : decode (yB m_X12_alphabet) 1 = .ok (.iconst 0, 1) := by decide +kernel
theorem d_X12_alphabet_2 : decode (yB m_X12_alphabet) 2 = .ok (.putfield 113, 3) := by decide +kernel
theorem d_X12_alphabet_5 : decode (yB m_X12_alphabet) 5 = .ok (.aload_n 0, 1) := by decide +kernel
theorem d_X12_alphabet_6 : decode (yB m_X12_alphabet) 6 = .ok (.iload_n 1, 1) := by decide +kernel
theorem d_X12_alphabet_7 : decode (yB m_X12_alphabet) 7 = .ok (.iconst 0, 1) := by decide +kernel
theorem d_X12_alphabet_8 : decode (yB m_X12_alphabet) 8 = .ok (.aload_n 0, 1) := by decide +kernel
theorem d_X12_alphabet_9 : decode (yB m_X12_alphabet) 9 = .ok (.getfield 116, 3) := by decide +kernel
theorem d_X12_alphabet_12 : decode (yB m_X12_alphabet) 12 = .ok (.invokestatic 147, 3) := by decide +kernel
theorem d_X12_alphabet_15 : decode (yB m_X12_alphabet) 15 = .ok (.ifCond .ne 7, 3) := by decide +kernel
theorem d_X12_alphabet_18 : decode (yB m_X12_alphabet) 18 = .ok (.iconst 1, 1) := by decide +kernel
theorem d_X12_alphabet_19 : decode (yB m_X12_alphabet) 19 = .ok (.goto 4, 3) := by decide +kernel
theorem d_X12_alphabet_22 : decode (yB m_X12_alphabet) 22 = .ok (.iconst 0, 1) := by decide +kernel
theorem d_X12_alphabet_23 : decode (yB m_X12_alphabet) 23 = .ok (.iconst 1, 1) := by decide +kernel
theorem d_X12_alphabet_24 : decode (yB m_X12_alphabet) 24 = .ok (.invokevirtual 214, 3) := by decide +kernel
theorem d_X12_alphabet_27 : decode (yB m_X12_alphabet) 27 = .ok (.ifCond .eq 5, 3) := by decide +kernel
theorem d_X12_alphabet_30 : decode (yB m_X12_alphabet) 30 = .ok (.iconst 0, 1) := by decide +kernel
theorem d_X12_alphabet_31 : decode (yB m_X12_alphabet) 31 = .ok (.ireturn, 1) := by decide +kernel
theorem d_X12_alphabet_32 : decode (yB m_X12_alphabet) 32 = .ok (.aload_n 0, 1) := by decide +kernel
theorem d_X12_alphabet_33 : decode (yB m_X12_alphabet) 33 = .ok (.iload_n 1, 1) := by decide +kernel
theorem d_X12_alphabet_34 : decode (yB m_X12_alphabet) 34 = .ok (.invokevirtual 218, 3) := by decide +kernel
theorem d_X12_alphabet_37 : decode (yB m_X12_alphabet) 37 = .ok (.aload_n 0, 1) := by decide +kernel
theorem d_X12_alphabet_38 : decode (yB m_X12_alphabet) 38 = .ok (.bipush 6, 2) := by decide +kernel
theorem d_X12_alphabet_40 : decode (yB m_X12_alphabet) 40 = .ok (.putfield 195, 3) := by decide +kernel
theorem d_X12_alphabet_43 : decode (yB m_X12_alphabet) 43 = .ok (.aload_n 0, 1) := by decide +kernel
theorem d_X12_alphabet_44 : decode (yB m_X12_alphabet) 44 = .ok (.iconst 5, 1) := by decide +kernel
theorem d_X12_alphabet_45 : decode (yB m_X12_alphabet) 45 = .ok (.putfield 198, 3) := by decide +kernel
theorem d_X12_alphabet_48 : decode (yB m_X12_alphabet) 48 = .ok (.aload_n 0, 1) := by decide +kernel
theorem d_X12_alphabet_49 : decode (yB m_X12_alphabet) 49 = .ok (.iconst 0, 1) := by decide +kernel
theorem d_X12_alphabet_50 : decode (yB m_X12_alphabet) 50 = .ok (.putfield 185, 3) := by decide +kernel
theorem d_X12_alphabet_53 : decode (yB m_X12_alphabet) 53 = .ok (.aload_n 0, 1) := by decide +kernel
theorem d_X12_alphabet_54 : decode (yB m_X12_alphabet) 54 = .ok (.iconst 0, 1) := by decide +kernel
theorem d_X12_alphabet_55 : decode (yB m_X12_alphabet) 55 = .ok (.putfield 188, 3) := by decide +kernel
theorem d_X12_alphabet_58 : decode (yB m_X12_alphabet) 58 = .ok (.aload_n 0, 1) := by decide +kernel
theorem d_X12_alphabet_59 : decode (yB m_X12_alphabet) 59 = .ok (.invokevirtual 135, 3) := by decide +kernel
theorem d_X12_alphabet_62 : decode (yB m_X12_alphabet) 62 = .ok (.aload_n 0, 1) := by decide +kernel
theorem d_X12_alphabet_63 : decode (yB m_X12_alphabet) 63 = .ok (.getfield 129, 3) := by decide +kernel
theorem d_X12_alphabet_66 : decode (yB m_X12_alphabet) 66 = .ok (.ifCond .ne 25, 3) := by decide +kernel
theorem d_X12_alphabet_69 : decode (yB m_X12_alphabet) 69 = .ok (.aload_n 0, 1) := by decide +kernel
theorem d_X12_alphabet_70 : decode (yB m_X12_alphabet) 70 = .ok (.getfield 122, 3) := by decide +kernel
theorem d_X12_alphabet_73 : decode (yB m_X12_alphabet) 73 = .ok (.aload_n 0, 1) := by decide +kernel
theorem d_X12_alphabet_74 : decode (yB m_X12_alphabet) 74 = .ok (.getfield 119, 3) := by decide +kernel
theorem d_X12_alphabet_77 : decode (yB m_X12_alphabet) 77 = .ok (.if_icmp .ge 14, 3) := by decide +kernel
theorem d_X12_alphabet_80 : decode (yB m_X12_alphabet) 80 = .ok (.aload_n 0, 1) := by decide +kernel
theorem d_X12_alphabet_81 : decode (yB m_X12_alphabet) 81 = .ok (.invokevirtual 221, 3) := by decide +kernel
theorem d_X12_alphabet_84 : decode (yB m_X12_alphabet) 84 = .ok (.aload_n 0, 1) := by decide +kernel
theorem d_X12_alphabet_85 : decode (yB m_X12_alphabet) 85 = .ok (.invokevirtual 135, 3) := by decide +kernel
theorem d_X12_alphabet_88 : decode (yB m_X12_alphabet) 88 = .ok (.goto (-26), 3) := by decide +kernel
theorem d_X12_alphabet_91 : decode (yB m_X12_alphabet) 91 = .ok (.aload_n 0, 1) := by decide +kernel
theorem d_X12_alphabet_92 : decode (yB m_X12_alphabet) 92 = .ok (.aload_n 0, 1) := by decide +kernel
theorem d_X12_alphabet_93 : decode (yB m_X12_alphabet) 93 = .ok (.getfield 132, 3) := by decide +kernel
theorem d_X12_alphabet_96 : decode (yB m_X12_alphabet) 96 = .ok (.putfield 9, 3) := by decide +kernel
theorem d_X12_alphabet_99 : decode (yB m_X12_alphabet) 99 = .ok (.aload_n 0, 1) := by decide +kernel
theorem d_X12_alphabet_100 : decode (yB m_X12_alphabet) 100 = .ok (.getfield 129, 3) := by decide +kernel
theorem d_X12_alphabet_103 : decode (yB m_X12_alphabet) 103 = .ok (.ifCond .eq 11, 3) := by decide +kernel
theorem d_X12_alphabet_106 : decode (yB m_X12_alphabet) 106 = .ok (.aload_n 0, 1) := by decide +kernel
theorem d_X12_alphabet_107 : decode (yB m_X12_alphabet) 107 = .ok (.getfield 129, 3) := by decide +kernel
theorem d_X12_alphabet_110 : decode (yB m_X12_alphabet) 110 = .ok (.bipush 10, 2) := by decide +kernel
theorem d_X12_alphabet_112 : decode (yB m_X12_alphabet) 112 = .ok (.isub, 1) := by decide +kernel
theorem d_X12_alphabet_113 : decode (yB m_X12_alphabet) 113 = .ok (.ireturn, 1) := by decide +kernel
theorem d_X12_alphabet_114 : decode (yB m_X12_alphabet) 114 = .ok (.aload_n 0, 1) := by decide +kernel
theorem d_X12_alphabet_115 : decode (yB m_X12_alphabet) 115 = .ok (.aload_n 0, 1) := by decide +kernel
theorem d_X12_alphabet_116 : decode (yB m_X12_alphabet) 116 = .ok (.getfield 195, 3) := by decide +kernel
theorem d_X12_alphabet_119 : decode (yB m_X12_alphabet) 119 = .ok (.putfield 17, 3) := by decide +kernel
theorem d_X12_alphabet_122 : decode (yB m_X12_alphabet) 122 = .ok (.aload_n 0, 1) := by decide +kernel
theorem d_X12_alphabet_123 : decode (yB m_X12_alphabet) 123 = .ok (.aload_n 0, 1) := by decide +kernel
theorem d_X12_alphabet_124 : decode (yB m_X12_alphabet) 124 = .ok (.getfield 198, 3) := by decide +kernel
theorem d_X12_alphabet_127 : decode (yB m_X12_alphabet) 127 = .ok (.putfield 20, 3) := by decide +kernel
theorem d_X12_alphabet_130 : decode (yB m_X12_alphabet) 130 = .ok (.aload_n 0, 1) := by decide +kernel
theorem d_X12_alphabet_131 : decode (yB m_X12_alphabet) 131 = .ok (.aload_n 0, 1) := by decide +kernel
theorem d_X12_alphabet_132 : decode (yB m_X12_alphabet) 132 = .ok (.getfield 185, 3) := by decide +kernel
theorem d_X12_alphabet_135 : decode (yB m_X12_alphabet) 135 = .ok (.putfield 224, 3) := by decide +kernel
theorem d_X12_alphabet_138 : decode (yB m_X12_alphabet) 138 = .ok (.aload_n 0, 1) := by decide +kernel
theorem d_X12_alphabet_139 : decode (yB m_X12_alphabet) 139 = .ok (.aload_n 0, 1) := by decide +kernel
theorem d_X12_alphabet_140 : decode (yB m_X12_alphabet) 140 = .ok (.getfield 188, 3) := by decide +kernel
theorem d_X12_alphabet_143 : decode (yB m_X12_alphabet) 143 = .ok (.putfield 227, 3) := by decide +kernel
theorem d_X12_alphabet_146 : decode (yB m_X12_alphabet) 146 = .ok (.iconst 0, 1) := by decide +kernel
theorem d_X12_alphabet_147 : decode (yB m_X12_alphabet) 147 = .ok (.istore_n 2, 1) := by decide +kernel
theorem d_X12_alphabet_148 : decode (yB m_X12_alphabet) 148 = .ok (.iload_n 2, 1) := by decide +kernel
theorem d_X12_alphabet_149 : decode (yB m_X12_alphabet) 149 = .ok (.aload_n 0, 1) := by decide +kernel
theorem d_X12_alphabet_150 : decode (yB m_X12_alphabet) 150 = .ok (.getfield 224, 3) := by decide +kernel
theorem d_X12_alphabet_153 : decode (yB m_X12_alphabet) 153 = .ok (.if_icmp .ge 33, 3) := by decide +kernel
theorem d_X12_alphabet_156 : decode (yB m_X12_alphabet) 156 = .ok (.aload_n 0, 1) := by decide +kernel
theorem d_X12_alphabet_157 : decode (yB m_X12_alphabet) 157 = .ok (.getfield 26, 3) := by decide +kernel
theorem d_X12_alphabet_160 : decode (yB m_X12_alphabet) 160 = .ok (.iload_n 2, 1) := by decide +kernel
theorem d_X12_alphabet_161 : decode (yB m_X12_alphabet) 161 = .ok (.aload_n 0, 1) := by decide +kernel
theorem d_X12_alphabet_162 : decode (yB m_X12_alphabet) 162 = .ok (.getfield 23, 3) := by decide +kernel
theorem d_X12_alphabet_165 : decode (yB m_X12_alphabet) 165 = .ok (.iload_n 2, 1) := by decide +kernel
theorem d_X12_alphabet_166 : decode (yB m_X12_alphabet) 166 = .ok (.iaload, 1) := by decide +kernel
theorem d_X12_alphabet_167 : decode (yB m_X12_alphabet) 167 = .ok (.iastore, 1) := by decide +kernel
theorem d_X12_alphabet_168 : decode (yB m_X12_alphabet) 168 = .ok (.aload_n 0, 1) := by decide +kernel
theorem d_X12_alphabet_169 : decode (yB m_X12_alphabet) 169 = .ok (.getfield 32, 3) := by decide +kernel
theorem d_X12_alphabet_172 : decode (yB m_X12_alphabet) 172 = .ok (.iload_n 2, 1) := by decide +kernel
theorem d_X12_alphabet_173 : decode (yB m_X12_alphabet) 173 = .ok (.aload_n 0, 1) := by decide +kernel
theorem d_X12_alphabet_174 : decode (yB m_X12_alphabet) 174 = .ok (.getfield 29, 3) := by decide +kernel
theorem d_X12_alphabet_177 : decode (yB m_X12_alphabet) 177 = .ok (.iload_n 2, 1) := by decide +kernel
theorem d_X12_alphabet_178 : decode (yB m_X12_alphabet) 178 = .ok (.iaload, 1) := by decide +kernel
theorem d_X12_alphabet_179 : decode (yB m_X12_alphabet) 179 = .ok (.iastore, 1) := by decide +kernel
theorem d_X12_alphabet_180 : decode (yB m_X12_alphabet) 180 = .ok (.iinc 2 1, 3) := by decide +kernel
theorem d_X12_alphabet_183 : decode (yB m_X12_alphabet) 183 = .ok (.goto (-35), 3) := by decide +kernel
theorem d_X12_alphabet_186 : decode (yB m_X12_alphabet) 186 = .ok (.iconst 0, 1) := by decide +kernel
theorem d_X12_alphabet_187 : decode (yB m_X12_alphabet) 187 = .ok (.istore_n 2, 1) := by decide +kernel
theorem d_X12_alphabet_188 : decode (yB m_X12_alphabet) 188 = .ok (.iload_n 2, 1) := by decide +kernel
theorem d_X12_alphabet_189 : decode (yB m_X12_alphabet) 189 = .ok (.aload_n 0, 1) := by decide +kernel
theorem d_X12_alphabet_190 : decode (yB m_X12_alphabet) 190 = .ok (.getfield 227, 3) := by decide +kernel
theorem d_X12_alphabet_193 : decode (yB m_X12_alphabet) 193 = .ok (.if_icmp .ge 51, 3) := by decide +kernel
theorem d_X12_alphabet_196 : decode (yB m_X12_alphabet) 196 = .ok (.aload_n 0, 1) := by decide +kernel
theorem d_X12_alphabet_197 : decode (yB m_X12_alphabet) 197 = .ok (.getfield 38, 3) := by decide +kernel
theorem d_X12_alphabet_200 : decode (yB m_X12_alphabet) 200 = .ok (.iload_n 2, 1) := by decide +kernel
theorem d_X12_alphabet_201 : decode (yB m_X12_alphabet) 201 = .ok (.aload_n 0, 1) := by decide +kernel
theorem d_X12_alphabet_202 : decode (yB m_X12_alphabet) 202 = .ok (.getfield 35, 3) := by decide +kernel
theorem d_X12_alphabet_205 : decode (yB m_X12_alphabet) 205 = .ok (.iload_n 2, 1) := by decide +kernel
theorem d_X12_alphabet_206 : decode (yB m_X12_alphabet) 206 = .ok (.iaload, 1) := by decide +kernel
theorem d_X12_alphabet_207 : decode (yB m_X12_alphabet) 207 = .ok (.iastore, 1) := by decide +kernel
theorem d_X12_alphabet_208 : decode (yB m_X12_alphabet) 208 = .ok (.iconst 0, 1) := by decide +kernel
theorem d_X12_alphabet_209 : decode (yB m_X12_alphabet) 209 = .ok (.istore_n 3, 1) := by decide +kernel
theorem d_X12_alphabet_210 : decode (yB m_X12_alphabet) 210 = .ok (.iload_n 3, 1) := by decide +kernel
theorem d_X12_alphabet_211 : decode (yB m_X12_alphabet) 211 = .ok (.bipush 6, 2) := by decide +kernel
theorem d_X12_alphabet_213 : decode (yB m_X12_alphabet) 213 = .ok (.if_icmp .ge 25, 3) := by decide +kernel
theorem d_X12_alphabet_216 : decode (yB m_X12_alphabet) 216 = .ok (.aload_n 0, 1) := by decide +kernel
theorem d_X12_alphabet_217 : decode (yB m_X12_alphabet) 217 = .ok (.getfield 46, 3) := by decide +kernel
theorem d_X12_alphabet_220 : decode (yB m_X12_alphabet) 220 = .ok (.iload_n 2, 1) := by decide +kernel
theorem d_X12_alphabet_221 : decode (yB m_X12_alphabet) 221 = .ok (.aaload, 1) := by decide +kernel
theorem d_X12_alphabet_222 : decode (yB m_X12_alphabet) 222 = .ok (.iload_n 3, 1) := by decide +kernel
theorem d_X12_alphabet_223 : decode (yB m_X12_alphabet) 223 = .ok (.aload_n 0, 1) := by decide +kernel
theorem d_X12_alphabet_224 : decode (yB m_X12_alphabet) 224 = .ok (.getfield 43, 3) := by decide +kernel
theorem d_X12_alphabet_227 : decode (yB m_X12_alphabet) 227 = .ok (.iload_n 2, 1) := by decide +kernel
theorem d_X12_alphabet_228 : decode (yB m_X12_alphabet) 228 = .ok (.aaload, 1) := by decide +kernel
theorem d_X12_alphabet_229 : decode (yB m_X12_alphabet) 229 = .ok (.iload_n 3, 1) := by decide +kernel
theorem d_X12_alphabet_230 : decode (yB m_X12_alphabet) 230 = .ok (.iaload, 1) := by decide +kernel
theorem d_X12_alphabet_231 : decode (yB m_X12_alphabet) 231 = .ok (.iastore, 1) := by decide +kernel
theorem d_X12_alphabet_232 : decode (yB m_X12_alphabet) 232 = .ok (.iinc 3 1, 3) := by decide +kernel
theorem d_X12_alphabet_235 : decode (yB m_X12_alphabet) 235 = .ok (.goto (-25), 3) := by decide +kernel
theorem d_X12_alphabet_238 : decode (yB m_X12_alphabet) 238 = .ok (.iinc 2 1, 3) := by decide +kernel
theorem d_X12_alphabet_241 : decode (yB m_X12_alphabet) 241 = .ok (.goto (-53), 3) := by decide +kernel
theorem d_X12_alphabet_244 : decode (yB m_X12_alphabet) 244 = .ok (.aload_n 0, 1) := by decide +kernel
theorem d_X12_alphabet_245 : decode (yB m_X12_alphabet) 245 = .ok (.iconst 1, 1) := by decide +kernel
theorem d_X12_alphabet_246 : decode (yB m_X12_alphabet) 246 = .ok (.putfield 49, 3) := by decide +kernel
theorem d_X12_alphabet_249 : decode (yB m_X12_alphabet) 249 = .ok (.aload_n 0, 1) := by decide +kernel
theorem d_X12_alphabet_250 : decode (yB m_X12_alphabet) 250 = .ok (.getfield 52, 3) := by decide +kernel
theorem d_X12_alphabet_253 : decode (yB m_X12_alphabet) 253 = .ok (.iconst 0, 1) := by decide +kernel
theorem d_X12_alphabet_254 : decode (yB m_X12_alphabet) 254 = .ok (.iconst 0, 1) := by decide +kernel
theorem d_X12_alphabet_255 : decode (yB m_X12_alphabet) 255 = .ok (.iastore, 1) := by decide +kernel
theorem d_X12_alphabet_256 : decode (yB m_X12_alphabet) 256 = .ok (.aload_n 0, 1) := by decide +kernel
theorem d_X12_alphabet_257 : decode (yB m_X12_alphabet) 257 = .ok (.iconst 0, 1) := by decide +kernel
theorem d_X12_alphabet_258 : decode (yB m_X12_alphabet) 258 = .ok (.putfield 230, 3) := by decide +kernel
theorem d_X12_alphabet_261 : decode (yB m_X12_alphabet) 261 = .ok (.aload_n 0, 1) := by decide +kernel
theorem d_X12_alphabet_262 : decode (yB m_X12_alphabet) 262 = .ok (.iconst 0, 1) := by decide +kernel
theorem d_X12_alphabet_263 : decode (yB m_X12_alphabet) 263 = .ok (.putfield 233, 3) := by decide +kernel
theorem d_X12_alphabet_266 : decode (yB m_X12_alphabet) 266 = .ok (.aload_n 0, 1) := by decide +kernel
theorem d_X12_alphabet_267 : decode (yB m_X12_alphabet) 267 = .ok (.iconst 0, 1) := by decide +kernel
theorem d_X12_alphabet_268 : decode (yB m_X12_alphabet) 268 = .ok (.putfield 236, 3) := by decide +kernel
theorem d_X12_alphabet_271 : decode (yB m_X12_alphabet) 271 = .ok (.aload_n 0, 1) := by decide +kernel
theorem d_X12_alphabet_272 : decode (yB m_X12_alphabet) 272 = .ok (.iconst 0, 1) := by decide +kernel
theorem d_X12_alphabet_273 : decode (yB m_X12_alphabet) 273 = .ok (.putfield 239, 3) := by decide +kernel
theorem d_X12_alphabet_276 : decode (yB m_X12_alphabet) 276 = .ok (.aload_n 0, 1) := by decide +kernel
theorem d_X12_alphabet_277 : decode (yB m_X12_alphabet) 277 = .ok (.getfield 224, 3) := by decide +kernel
theorem d_X12_alphabet_280 : decode (yB m_X12_alphabet) 280 = .ok (.ireturn, 1) := by decide +kernel
def fn_X12_alphabet_244 (v1 : Int32) (D : zD) : Option (Int32 × zD) := zlet (sI D 102 26 (1 : Int32)) fun D21 => zlet (sI D21 128 0 (0 : Int32)) fun D22 => zlet (sI D22 102 34 (0 : Int32)) fun D23 => zlet (sI D23 102 35 (0 : Int32)) fun D24 => zlet (sI D24 102 36 (0 : Int32)) fun D25 => zlet (sI D25 102 37 (0 : Int32)) fun D26 => (some ((gI D26 102 16), D26))
def fn_X12_alphabet_210 (v1 : Int32) (k188 : Int32 → zD → Option (Int32 × zD)) : Nat → Int32 → Int32 → zD → Option (Int32 × zD)
  | 0, _, _, _ => none
  | n + 1, v2, v3, D => (if (6 : Int32) ≤ v3 then ((k188 (v2 + (1 : Int32)) D)) else (zck v2 8 <| zck v2 8 <| zck v3 6 <| zck v3 6 <| zlet (sI D (120 + v2.toNatClampNeg) v3.toNatClampNeg (gI D (111 + v2.toNatClampNeg) v3.toNatClampNeg)) fun D35 => ((fn_X12_alphabet_210 v1 k188 n) v2 (v3 + (1 : Int32)) D35)))
def fn_X12_alphabet_188 (v1 : Int32) : Nat → Int32 → zD → Option (Int32 × zD)
  | 0, _, _ => none
  | n + 1, v2, D => (if (gI D 102 17) ≤ v2 then ((fn_X12_alphabet_244 v1 D)) else (zck v2 8 <| zck v2 8 <| zlet (sI D 109 v2.toNatClampNeg (gI D 108 v2.toNatClampNeg)) fun D29 => (fn_X12_alphabet_210 v1 (fn_X12_alphabet_188 v1 n) zFU v2 (0 : Int32) D29)))
def fn_X12_alphabet_148 (v1 : Int32) : Nat → Int32 → zD → Option (Int32 × zD)
  | 0, _, _ => none
  | n + 1, v2, D => (if (gI D 102 16) ≤ v2 then ((fn_X12_alphabet_188 v1 zFU (0 : Int32) D)) else (zck v2 12 <| zck v2 12 <| zlet (sI D 105 v2.toNatClampNeg (gI D 104 v2.toNatClampNeg)) fun D38 => zck v2 12 <| zck v2 12 <| zlet (sI D38 107 v2.toNatClampNeg (gI D38 106 v2.toNatClampNeg)) fun D41 => ((fn_X12_alphabet_148 v1 n) (v2 + (1 : Int32)) D41)))
def fn_X12_alphabet_91 (v1 : Int32) (D : zD) : Option (Int32 × zD) := zlet (sI D 102 3 (gI D 102 6)) fun D13 => (if (gI D13 102 5) = 0 then (zlet (sI D13 102 14 (gI D13 102 10)) fun D15 => zlet (sI D15 102 15 (gI D15 102 11)) fun D16 => zlet (sI D16 102 16 (gI D16 102 12)) fun D17 => zlet (sI D17 102 17 (gI D17 102 13)) fun D18 => (fn_X12_alphabet_148 v1 zFU (0 : Int32) D18)) else ((some (((gI D13 102 5) - (10 : Int32)), D13))))
def fn_X12_alphabet_62 (v1 : Int32) : Nat → zD → Option (Int32 × zD)
  | 0, _ => none
  | n + 1, D => (if (gI D 102 5) = 0 then ((if (gI D 102 2) ≤ (gI D 102 4) then ((fn_X12_alphabet_91 v1 D)) else ((fn_X12_clause D).bind fun D43 => (fn_X12_blanks D43).bind fun D44 => ((fn_X12_alphabet_62 v1 n) D44)))) else ((fn_X12_alphabet_91 v1 D)))
def fn_X12_alphabet_23 (v1 : Int32) (w1 : Int32) (D : zD) : Option (Int32 × zD) := (fn_X12_bad w1 (1 : Int32) D).bind fun q4 => (if q4.1 = 0 then ((fn_X12_starts v1 q4.2).bind fun D6 => zlet (sI D6 102 10 (6 : Int32)) fun D7 => zlet (sI D7 102 11 (5 : Int32)) fun D8 => zlet (sI D8 102 12 (0 : Int32)) fun D9 => zlet (sI D9 102 13 (0 : Int32)) fun D10 => (fn_X12_blanks D10).bind fun D11 => (fn_X12_alphabet_62 v1 zFU D11)) else ((some ((0 : Int32), q4.2))))
def fn_X12_alphabet (v1 : Int32) (D : zD) : Option (Int32 × zD) := zlet (sI D 102 0 (0 : Int32)) fun D1 => (fn_X12_in v1 (0 : Int32) (gI D1 102 1)).bind fun x2 => (if x2 = 0 then ((fn_X12_alphabet_23 v1 (1 : Int32) D1)) else ((fn_X12_alphabet_23 v1 (0 : Int32) D1)))
theorem s_X12_alphabet_244 {X : zX} {Sh : zSh} {d : Nat} (hst : (zl X).stackTraces = false) (h0 : zSh0 Sh) (hd : 6 ≤ d) {v1 : Int32}  (D : zD)  : Rn X m_X12_alphabet (d + 1) 244 [(0, .ref 102)] [] (Sh, D) ((oI Sh) (fn_X12_alphabet_244 v1 D)) := by
  rw [fn_X12_alphabet_244]
  refine r_aload_n (pc := 244) 0 d_X12_alphabet_244 rfl rfl ?_
  refine r_iconst (pc := 245) (1 : Int32) d_X12_alphabet_245 rfl ?_
  refine r_putI (pc := 246) p_X12_49 (K_102 h0) rfl (Or.inl rfl) d_X12_alphabet_246 ?_
  refine r_letD (f := (oI Sh)) (fun D21 => ?_)
  refine r_aload_n (pc := 249) 0 d_X12_alphabet_249 rfl rfl ?_
  refine r_getR (pc := 250) g_X12_52 (K_102 h0) rfl (R_102_28 h0) d_X12_alphabet_250 ?_
  refine r_iconst (pc := 253) (0 : Int32) d_X12_alphabet_253 rfl ?_
  refine r_iconst (pc := 254) (0 : Int32) d_X12_alphabet_254 rfl ?_
  refine q_iast (pc := 255) (j := 0) (K_128 h0) (by unfold vp_in; decide) rfl  d_X12_alphabet_255 ?_
  refine r_letD (f := (oI Sh)) (fun D22 => ?_)
  refine r_aload_n (pc := 256) 0 d_X12_alphabet_256 rfl rfl ?_
  refine r_iconst (pc := 257) (0 : Int32) d_X12_alphabet_257 rfl ?_
  refine r_putI (pc := 258) p_X12_230 (K_102 h0) rfl (Or.inl rfl) d_X12_alphabet_258 ?_
  refine r_letD (f := (oI Sh)) (fun D23 => ?_)
  refine r_aload_n (pc := 261) 0 d_X12_alphabet_261 rfl rfl ?_
  refine r_iconst (pc := 262) (0 : Int32) d_X12_alphabet_262 rfl ?_
  refine r_putI (pc := 263) p_X12_233 (K_102 h0) rfl (Or.inl rfl) d_X12_alphabet_263 ?_
  refine r_letD (f := (oI Sh)) (fun D24 => ?_)
  refine r_aload_n (pc := 266) 0 d_X12_alphabet_266 rfl rfl ?_
  refine r_iconst (pc := 267) (0 : Int32) d_X12_alphabet_267 rfl ?_
  refine r_putI (pc := 268) p_X12_236 (K_102 h0) rfl (Or.inl rfl) d_X12_alphabet_268 ?_
  refine r_letD (f := (oI Sh)) (fun D25 => ?_)
  refine r_aload_n (pc := 271) 0 d_X12_alphabet_271 rfl rfl ?_
  refine r_iconst (pc := 272) (0 : Int32) d_X12_alphabet_272 rfl ?_
  refine r_putI (pc := 273) p_X12_239 (K_102 h0) rfl (Or.inl rfl) d_X12_alphabet_273 ?_
  refine r_letD (f := (oI Sh)) (fun D26 => ?_)
  refine r_aload_n (pc := 276) 0 d_X12_alphabet_276 rfl rfl ?_
  refine q_gI (pc := 277) g_X12_224 (K_102 h0) rfl d_X12_alphabet_277 ?_
  exact r_iret (pc := 280) rfl d_X12_alphabet_280
theorem s_X12_alphabet_210 {X : zX} {Sh : zSh} {d : Nat} (hst : (zl X).stackTraces = false) (h0 : zSh0 Sh) (hd : 6 ≤ d) {v1 : Int32} (k188 : Int32 → zD → Option (Int32 × zD)) (hk188 : ∀ (v2 : Int32) (D : zD) , Rn X m_X12_alphabet (d + 1) 188 [(0, .ref 102), (2, .int v2)] [] (Sh, D) ((oI Sh) (k188 v2 D))) : ∀ (n : Nat) (v2 : Int32) (v3 : Int32) (D : zD) , Rn X m_X12_alphabet (d + 1) 210 [(0, .ref 102), (2, .int v2), (3, .int v3)] [] (Sh, D) ((oI Sh) (fn_X12_alphabet_210 v1 k188 n v2 v3 D)) := by
  intro n
  induction n with
  | zero => intro v2 v3 D; exact Rn_none rfl
  | succ n hk210 =>
    intro v2 v3 D
    rw [fn_X12_alphabet_210]
    refine r_iload_n (pc := 210) 2 d_X12_alphabet_210 rfl rfl ?_
    refine r_bipush (pc := 211) (6 : Int32) d_X12_alphabet_211 rfl ?_
    refine r_icmp_ge (f := (oI Sh)) (pc := 213) 238 d_X12_alphabet_213 (by decide) (fun c30 => ?_) (fun c30 => ?_)
    · refine r_iinc (pc := 238) ((v2 + (1 : Int32))) 1 (ls' := [(2, .int (v2 + (1 : Int32))), (0, .ref 102), (3, .int v3)]) d_X12_alphabet_238 rfl rfl (Nat.le_of_ble_eq_true rfl) rfl ?_
      refine r_goto (pc := 241) 188 d_X12_alphabet_241 (by decide) ?_
      refine r_pick [1, 0] (ls' := [(0, .ref 102), (2, .int (v2 + (1 : Int32)))]) rfl ?_
      exact hk188 (v2 + (1 : Int32)) D 
    · refine r_aload_n (pc := 216) 0 d_X12_alphabet_216 rfl rfl ?_
      refine r_getR (pc := 217) g_X12_46 (K_102 h0) rfl (R_102_25 h0) d_X12_alphabet_217 ?_
      refine r_iload_n (pc := 220) 1 d_X12_alphabet_220 rfl rfl ?_
      refine r_ck (f := (oI Sh)) rfl (fun hc31 => ?_)
      refine q_aald (pc := 221) (j := v2.toNatClampNeg) (K_119 h0) (Or.inl ⟨rfl, rfl⟩) hc31 rfl (RW_119 h0 _ (z_lt hc31)) d_X12_alphabet_221 ?_
      refine r_iload_n (pc := 222) 2 d_X12_alphabet_222 rfl rfl ?_
      refine r_aload_n (pc := 223) 0 d_X12_alphabet_223 rfl rfl ?_
      refine r_getR (pc := 224) g_X12_43 (K_102 h0) rfl (R_102_24 h0) d_X12_alphabet_224 ?_
      refine r_iload_n (pc := 227) 1 d_X12_alphabet_227 rfl rfl ?_
      refine r_ck (f := (oI Sh)) rfl (fun hc32 => ?_)
      refine q_aald (pc := 228) (j := v2.toNatClampNeg) (K_110 h0) (Or.inl ⟨rfl, rfl⟩) hc32 rfl (RW_110 h0 _ (z_lt hc32)) d_X12_alphabet_228 ?_
      refine r_iload_n (pc := 229) 2 d_X12_alphabet_229 rfl rfl ?_
      refine r_ck (f := (oI Sh)) rfl (fun hc33 => ?_)
      refine q_iald (pc := 230) (j := v3.toNatClampNeg) (RK_110 h0 _ (z_lt hc32)) hc33 rfl d_X12_alphabet_230 ?_
      refine r_ck (f := (oI Sh)) rfl (fun hc34 => ?_)
      refine q_iast (pc := 231) (j := v3.toNatClampNeg) (RK_119 h0 _ (z_lt hc31)) hc34 rfl  d_X12_alphabet_231 ?_
      refine r_letD (f := (oI Sh)) (fun D35 => ?_)
      refine r_iinc (pc := 232) ((v3 + (1 : Int32))) 2 (ls' := [(3, .int (v3 + (1 : Int32))), (0, .ref 102), (2, .int v2)]) d_X12_alphabet_232 rfl rfl (Nat.le_of_ble_eq_true rfl) rfl ?_
      refine r_goto (pc := 235) 210 d_X12_alphabet_235 (by decide) ?_
      refine r_pick [1, 2, 0] (ls' := [(0, .ref 102), (2, .int v2), (3, .int (v3 + (1 : Int32)))]) rfl ?_
      exact hk210 v2 (v3 + (1 : Int32)) D35 
theorem s_X12_alphabet_188 {X : zX} {Sh : zSh} {d : Nat} (hst : (zl X).stackTraces = false) (h0 : zSh0 Sh) (hd : 6 ≤ d) {v1 : Int32} : ∀ (n : Nat) (v2 : Int32) (D : zD) , Rn X m_X12_alphabet (d + 1) 188 [(0, .ref 102), (2, .int v2)] [] (Sh, D) ((oI Sh) (fn_X12_alphabet_188 v1 n v2 D)) := by
  intro n
  induction n with
  | zero => intro v2 D; exact Rn_none rfl
  | succ n hk188 =>
    intro v2 D
    rw [fn_X12_alphabet_188]
    refine r_iload_n (pc := 188) 1 d_X12_alphabet_188 rfl rfl ?_
    refine r_aload_n (pc := 189) 0 d_X12_alphabet_189 rfl rfl ?_
    refine q_gI (pc := 190) g_X12_227 (K_102 h0) rfl d_X12_alphabet_190 ?_
    refine r_icmp_ge (f := (oI Sh)) (pc := 193) 244 d_X12_alphabet_193 (by decide) (fun c20 => ?_) (fun c20 => ?_)
    · refine r_pick [0] (ls' := [(0, .ref 102)]) rfl ?_
      exact s_X12_alphabet_244 hst h0 hd D
    · refine r_aload_n (pc := 196) 0 d_X12_alphabet_196 rfl rfl ?_
      refine r_getR (pc := 197) g_X12_38 (K_102 h0) rfl (R_102_23 h0) d_X12_alphabet_197 ?_
      refine r_iload_n (pc := 200) 1 d_X12_alphabet_200 rfl rfl ?_
      refine r_aload_n (pc := 201) 0 d_X12_alphabet_201 rfl rfl ?_
      refine r_getR (pc := 202) g_X12_35 (K_102 h0) rfl (R_102_22 h0) d_X12_alphabet_202 ?_
      refine r_iload_n (pc := 205) 1 d_X12_alphabet_205 rfl rfl ?_
      refine r_ck (f := (oI Sh)) rfl (fun hc27 => ?_)
      refine q_iald (pc := 206) (j := v2.toNatClampNeg) (K_108 h0) hc27 rfl d_X12_alphabet_206 ?_
      refine r_ck (f := (oI Sh)) rfl (fun hc28 => ?_)
      refine q_iast (pc := 207) (j := v2.toNatClampNeg) (K_109 h0) hc28 rfl  d_X12_alphabet_207 ?_
      refine r_letD (f := (oI Sh)) (fun D29 => ?_)
      refine r_iconst (pc := 208) (0 : Int32) d_X12_alphabet_208 rfl ?_
      refine r_istore_n (pc := 209) (ls' := [(3, .int (0 : Int32)), (0, .ref 102), (2, .int v2)]) d_X12_alphabet_209 rfl (Nat.le_of_ble_eq_true rfl) rfl ?_
      refine r_pick [1, 2, 0] (ls' := [(0, .ref 102), (2, .int v2), (3, .int (0 : Int32))]) rfl ?_
      exact s_X12_alphabet_210 hst h0 hd (fn_X12_alphabet_188 v1 n) hk188 zFU  v2 (0 : Int32) D29
theorem s_X12_alphabet_148 {X : zX} {Sh : zSh} {d : Nat} (hst : (zl X).stackTraces = false) (h0 : zSh0 Sh) (hd : 6 ≤ d) {v1 : Int32} : ∀ (n : Nat) (v2 : Int32) (D : zD) , Rn X m_X12_alphabet (d + 1) 148 [(0, .ref 102), (2, .int v2)] [] (Sh, D) ((oI Sh) (fn_X12_alphabet_148 v1 n v2 D)) := by
  intro n
  induction n with
  | zero => intro v2 D; exact Rn_none rfl
  | succ n hk148 =>
    intro v2 D
    rw [fn_X12_alphabet_148]
    refine r_iload_n (pc := 148) 1 d_X12_alphabet_148 rfl rfl ?_
    refine r_aload_n (pc := 149) 0 d_X12_alphabet_149 rfl rfl ?_
    refine q_gI (pc := 150) g_X12_224 (K_102 h0) rfl d_X12_alphabet_150 ?_
    refine r_icmp_ge (f := (oI Sh)) (pc := 153) 186 d_X12_alphabet_153 (by decide) (fun c19 => ?_) (fun c19 => ?_)
    · refine r_iconst (pc := 186) (0 : Int32) d_X12_alphabet_186 rfl ?_
      refine r_istore_n (pc := 187) (ls' := [(2, .int (0 : Int32)), (0, .ref 102)]) d_X12_alphabet_187 rfl (Nat.le_of_ble_eq_true rfl) rfl ?_
      refine r_pick [1, 0] (ls' := [(0, .ref 102), (2, .int (0 : Int32))]) rfl ?_
      exact s_X12_alphabet_188 hst h0 hd zFU  (0 : Int32) D
    · refine r_aload_n (pc := 156) 0 d_X12_alphabet_156 rfl rfl ?_
      refine r_getR (pc := 157) g_X12_26 (K_102 h0) rfl (R_102_19 h0) d_X12_alphabet_157 ?_
      refine r_iload_n (pc := 160) 1 d_X12_alphabet_160 rfl rfl ?_
      refine r_aload_n (pc := 161) 0 d_X12_alphabet_161 rfl rfl ?_
      refine r_getR (pc := 162) g_X12_23 (K_102 h0) rfl (R_102_18 h0) d_X12_alphabet_162 ?_
      refine r_iload_n (pc := 165) 1 d_X12_alphabet_165 rfl rfl ?_
      refine r_ck (f := (oI Sh)) rfl (fun hc36 => ?_)
      refine q_iald (pc := 166) (j := v2.toNatClampNeg) (K_104 h0) hc36 rfl d_X12_alphabet_166 ?_
      refine r_ck (f := (oI Sh)) rfl (fun hc37 => ?_)
      refine q_iast (pc := 167) (j := v2.toNatClampNeg) (K_105 h0) hc37 rfl  d_X12_alphabet_167 ?_
      refine r_letD (f := (oI Sh)) (fun D38 => ?_)
      refine r_aload_n (pc := 168) 0 d_X12_alphabet_168 rfl rfl ?_
      refine r_getR (pc := 169) g_X12_32 (K_102 h0) rfl (R_102_21 h0) d_X12_alphabet_169 ?_
      refine r_iload_n (pc := 172) 1 d_X12_alphabet_172 rfl rfl ?_
      refine r_aload_n (pc := 173) 0 d_X12_alphabet_173 rfl rfl ?_
      refine r_getR (pc := 174) g_X12_29 (K_102 h0) rfl (R_102_20 h0) d_X12_alphabet_174 ?_
      refine r_iload_n (pc := 177) 1 d_X12_alphabet_177 rfl rfl ?_
      refine r_ck (f := (oI Sh)) rfl (fun hc39 => ?_)
      refine q_iald (pc := 178) (j := v2.toNatClampNeg) (K_106 h0) hc39 rfl d_X12_alphabet_178 ?_
      refine r_ck (f := (oI Sh)) rfl (fun hc40 => ?_)
      refine q_iast (pc := 179) (j := v2.toNatClampNeg) (K_107 h0) hc40 rfl  d_X12_alphabet_179 ?_
      refine r_letD (f := (oI Sh)) (fun D41 => ?_)
      refine r_iinc (pc := 180) ((v2 + (1 : Int32))) 1 (ls' := [(2, .int (v2 + (1 : Int32))), (0, .ref 102)]) d_X12_alphabet_180 rfl rfl (Nat.le_of_ble_eq_true rfl) rfl ?_
      refine r_goto (pc := 183) 148 d_X12_alphabet_183 (by decide) ?_
      refine r_pick [1, 0] (ls' := [(0, .ref 102), (2, .int (v2 + (1 : Int32)))]) rfl ?_
      exact hk148 (v2 + (1 : Int32)) D41 
theorem s_X12_alphabet_91 {X : zX} {Sh : zSh} {d : Nat} (hst : (zl X).stackTraces = false) (h0 : zSh0 Sh) (hd : 6 ≤ d) {v1 : Int32}  (D : zD)  : Rn X m_X12_alphabet (d + 1) 91 [(0, .ref 102)] [] (Sh, D) ((oI Sh) (fn_X12_alphabet_91 v1 D)) := by
  rw [fn_X12_alphabet_91]
  refine r_aload_n (pc := 91) 0 d_X12_alphabet_91 rfl rfl ?_
  refine r_aload_n (pc := 92) 0 d_X12_alphabet_92 rfl rfl ?_
  refine q_gI (pc := 93) g_X12_132 (K_102 h0) rfl d_X12_alphabet_93 ?_
  refine r_putI (pc := 96) p_X12_9 (K_102 h0) rfl (Or.inl rfl) d_X12_alphabet_96 ?_
  refine r_letD (f := (oI Sh)) (fun D13 => ?_)
  refine r_aload_n (pc := 99) 0 d_X12_alphabet_99 rfl rfl ?_
  refine q_gI (pc := 100) g_X12_129 (K_102 h0) rfl d_X12_alphabet_100 ?_
  refine r_if_eq (f := (oI Sh)) (pc := 103) 114 d_X12_alphabet_103 (by decide) (fun c14 => ?_) (fun c14 => ?_)
  · refine r_aload_n (pc := 114) 0 d_X12_alphabet_114 rfl rfl ?_
    refine r_aload_n (pc := 115) 0 d_X12_alphabet_115 rfl rfl ?_
    refine q_gI (pc := 116) g_X12_195 (K_102 h0) rfl d_X12_alphabet_116 ?_
    refine r_putI (pc := 119) p_X12_17 (K_102 h0) rfl (Or.inl rfl) d_X12_alphabet_119 ?_
    refine r_letD (f := (oI Sh)) (fun D15 => ?_)
    refine r_aload_n (pc := 122) 0 d_X12_alphabet_122 rfl rfl ?_
    refine r_aload_n (pc := 123) 0 d_X12_alphabet_123 rfl rfl ?_
    refine q_gI (pc := 124) g_X12_198 (K_102 h0) rfl d_X12_alphabet_124 ?_
    refine r_putI (pc := 127) p_X12_20 (K_102 h0) rfl (Or.inl rfl) d_X12_alphabet_127 ?_
    refine r_letD (f := (oI Sh)) (fun D16 => ?_)
    refine r_aload_n (pc := 130) 0 d_X12_alphabet_130 rfl rfl ?_
    refine r_aload_n (pc := 131) 0 d_X12_alphabet_131 rfl rfl ?_
    refine q_gI (pc := 132) g_X12_185 (K_102 h0) rfl d_X12_alphabet_132 ?_
    refine r_putI (pc := 135) p_X12_224 (K_102 h0) rfl (Or.inl rfl) d_X12_alphabet_135 ?_
    refine r_letD (f := (oI Sh)) (fun D17 => ?_)
    refine r_aload_n (pc := 138) 0 d_X12_alphabet_138 rfl rfl ?_
    refine r_aload_n (pc := 139) 0 d_X12_alphabet_139 rfl rfl ?_
    refine q_gI (pc := 140) g_X12_188 (K_102 h0) rfl d_X12_alphabet_140 ?_
    refine r_putI (pc := 143) p_X12_227 (K_102 h0) rfl (Or.inl rfl) d_X12_alphabet_143 ?_
    refine r_letD (f := (oI Sh)) (fun D18 => ?_)
    refine r_iconst (pc := 146) (0 : Int32) d_X12_alphabet_146 rfl ?_
    refine r_istore_n (pc := 147) (ls' := [(2, .int (0 : Int32)), (0, .ref 102)]) d_X12_alphabet_147 rfl (Nat.le_of_ble_eq_true rfl) rfl ?_
    refine r_pick [1, 0] (ls' := [(0, .ref 102), (2, .int (0 : Int32))]) rfl ?_
    exact s_X12_alphabet_148 hst h0 hd zFU  (0 : Int32) D18
  · refine r_aload_n (pc := 106) 0 d_X12_alphabet_106 rfl rfl ?_
    refine q_gI (pc := 107) g_X12_129 (K_102 h0) rfl d_X12_alphabet_107 ?_
    refine r_bipush (pc := 110) (10 : Int32) d_X12_alphabet_110 rfl ?_
    refine r_isub (pc := 112) d_X12_alphabet_112 ?_
    exact r_iret (pc := 113) rfl d_X12_alphabet_113
theorem s_X12_alphabet_62 {X : zX} {Sh : zSh} {d : Nat} (hst : (zl X).stackTraces = false) (h0 : zSh0 Sh) (hd : 6 ≤ d) {v1 : Int32} : ∀ (n : Nat)  (D : zD) , Rn X m_X12_alphabet (d + 1) 62 [(0, .ref 102)] [] (Sh, D) ((oI Sh) (fn_X12_alphabet_62 v1 n D)) := by
  intro n
  induction n with
  | zero => intro D; exact Rn_none rfl
  | succ n hk62 =>
    intro D
    rw [fn_X12_alphabet_62]
    refine r_aload_n (pc := 62) 0 d_X12_alphabet_62 rfl rfl ?_
    refine q_gI (pc := 63) g_X12_129 (K_102 h0) rfl d_X12_alphabet_63 ?_
    refine r_if_ne (f := (oI Sh)) (pc := 66) 91 d_X12_alphabet_66 (by decide) (fun c12 => ?_) (fun c12 => ?_)
    · refine r_pick [0] (ls' := [(0, .ref 102)]) rfl ?_
      exact s_X12_alphabet_91 hst h0 hd D
    · refine r_aload_n (pc := 69) 0 d_X12_alphabet_69 rfl rfl ?_
      refine q_gI (pc := 70) g_X12_122 (K_102 h0) rfl d_X12_alphabet_70 ?_
      refine r_aload_n (pc := 73) 0 d_X12_alphabet_73 rfl rfl ?_
      refine q_gI (pc := 74) g_X12_119 (K_102 h0) rfl d_X12_alphabet_74 ?_
      refine r_icmp_ge (f := (oI Sh)) (pc := 77) 91 d_X12_alphabet_77 (by decide) (fun c42 => ?_) (fun c42 => ?_)
      · refine r_pick [0] (ls' := [(0, .ref 102)]) rfl ?_
        exact s_X12_alphabet_91 hst h0 hd D
      · refine r_aload_n (pc := 80) 0 d_X12_alphabet_80 rfl rfl ?_
        refine q_cV (f := (oI Sh)) (av := [.ref 102]) (st := []) (z_runV ck_X12_clause rfl ml_X12_221 ci_X12_clause cv_X12_clause (K_102 h0) (ci := 12) rfl rfl (Nat.le_of_ble_eq_true rfl) d_X12_alphabet_81) (s_X12_clause hst h0 (by omega)) kp_I (fun D43 _ => ?_)
        refine r_aload_n (pc := 84) 0 d_X12_alphabet_84 rfl rfl ?_
        refine q_cV (f := (oI Sh)) (av := [.ref 102]) (st := []) (z_runV ck_X12_blanks rfl ml_X12_135 ci_X12_blanks cv_X12_blanks (K_102 h0) (ci := 12) rfl rfl (Nat.le_of_ble_eq_true rfl) d_X12_alphabet_85) (s_X12_blanks hst h0 (by omega)) kp_I (fun D44 _ => ?_)
        refine r_goto (pc := 88) 62 d_X12_alphabet_88 (by decide) ?_
        refine r_pick [0] (ls' := [(0, .ref 102)]) rfl ?_
        exact hk62 D44 
theorem s_X12_alphabet_23 {X : zX} {Sh : zSh} {d : Nat} (hst : (zl X).stackTraces = false) (h0 : zSh0 Sh) (hd : 6 ≤ d) {v1 : Int32} (w1 : Int32) (D : zD)  : Rn X m_X12_alphabet (d + 1) 23 [(0, .ref 102), (1, .int v1)] [.int w1, .ref 102] (Sh, D) ((oI Sh) (fn_X12_alphabet_23 v1 w1 D)) := by
  rw [fn_X12_alphabet_23]
  refine r_iconst (pc := 23) (1 : Int32) d_X12_alphabet_23 rfl ?_
  refine q_cI (f := (oI Sh)) (av := [.ref 102, .int w1, .int (1 : Int32)]) (st := []) (z_runV ck_X12_bad rfl ml_X12_214 ci_X12_bad cv_X12_bad (K_102 h0) (ci := 12) rfl rfl (Nat.le_of_ble_eq_true rfl) d_X12_alphabet_24) (s_X12_bad hst h0 (by omega)) kp_I (fun q4 _ => ?_)
  refine r_if_eq (f := (oI Sh)) (pc := 27) 32 d_X12_alphabet_27 (by decide) (fun c5 => ?_) (fun c5 => ?_)
  · refine r_aload_n (pc := 32) 0 d_X12_alphabet_32 rfl rfl ?_
    refine r_iload_n (pc := 33) 1 d_X12_alphabet_33 rfl rfl ?_
    refine q_cV (f := (oI Sh)) (av := [.ref 102, .int v1]) (st := []) (z_runV ck_X12_starts rfl ml_X12_218 ci_X12_starts cv_X12_starts (K_102 h0) (ci := 12) rfl rfl (Nat.le_of_ble_eq_true rfl) d_X12_alphabet_34) (s_X12_starts hst h0 (by omega)) kp_I (fun D6 _ => ?_)
    refine r_aload_n (pc := 37) 0 d_X12_alphabet_37 rfl rfl ?_
    refine r_bipush (pc := 38) (6 : Int32) d_X12_alphabet_38 rfl ?_
    refine r_putI (pc := 40) p_X12_195 (K_102 h0) rfl (Or.inl rfl) d_X12_alphabet_40 ?_
    refine r_letD (f := (oI Sh)) (fun D7 => ?_)
    refine r_aload_n (pc := 43) 0 d_X12_alphabet_43 rfl rfl ?_
    refine r_iconst (pc := 44) (5 : Int32) d_X12_alphabet_44 rfl ?_
    refine r_putI (pc := 45) p_X12_198 (K_102 h0) rfl (Or.inl rfl) d_X12_alphabet_45 ?_
    refine r_letD (f := (oI Sh)) (fun D8 => ?_)
    refine r_aload_n (pc := 48) 0 d_X12_alphabet_48 rfl rfl ?_
    refine r_iconst (pc := 49) (0 : Int32) d_X12_alphabet_49 rfl ?_
    refine r_putI (pc := 50) p_X12_185 (K_102 h0) rfl (Or.inl rfl) d_X12_alphabet_50 ?_
    refine r_letD (f := (oI Sh)) (fun D9 => ?_)
    refine r_aload_n (pc := 53) 0 d_X12_alphabet_53 rfl rfl ?_
    refine r_iconst (pc := 54) (0 : Int32) d_X12_alphabet_54 rfl ?_
    refine r_putI (pc := 55) p_X12_188 (K_102 h0) rfl (Or.inl rfl) d_X12_alphabet_55 ?_
    refine r_letD (f := (oI Sh)) (fun D10 => ?_)
    refine r_aload_n (pc := 58) 0 d_X12_alphabet_58 rfl rfl ?_
    refine q_cV (f := (oI Sh)) (av := [.ref 102]) (st := []) (z_runV ck_X12_blanks rfl ml_X12_135 ci_X12_blanks cv_X12_blanks (K_102 h0) (ci := 12) rfl rfl (Nat.le_of_ble_eq_true rfl) d_X12_alphabet_59) (s_X12_blanks hst h0 (by omega)) kp_I (fun D11 _ => ?_)
    refine r_pick [0] (ls' := [(0, .ref 102)]) rfl ?_
    exact s_X12_alphabet_62 hst h0 hd zFU  D11
  · refine r_iconst (pc := 30) (0 : Int32) d_X12_alphabet_30 rfl ?_
    exact r_iret (pc := 31) rfl d_X12_alphabet_31
theorem s_X12_alphabet {X : zX} {Sh : zSh} {d : Nat} (hst : (zl X).stackTraces = false) (h0 : zSh0 Sh) (hd : 7 ≤ d) {v1 : Int32} {D : zD} : Sd X m_X12_alphabet d [.ref 102, .int v1] (Sh, D) ((oI Sh) (fn_X12_alphabet v1 D)) := by
  obtain ⟨d, rfl⟩ : ∃ e, d = e + 1 := ⟨d - 1, by omega⟩
  replace hd : 6 ≤ d := by omega
  refine z_body ck_X12_alphabet rfl (Nat.le_of_ble_eq_true rfl) rfl hst ?_
  rw [fn_X12_alphabet]
  show Rn X m_X12_alphabet (d + 1) 0 [(0, .ref 102), (1, .int v1)] [] (Sh, D) _
  refine r_aload_n (pc := 0) 0 d_X12_alphabet_0 rfl rfl ?_
  refine r_iconst (pc := 1) (0 : Int32) d_X12_alphabet_1 rfl ?_
  refine r_putI (pc := 2) p_X12_113 (K_102 h0) rfl (Or.inl rfl) d_X12_alphabet_2 ?_
  refine r_letD (f := (oI Sh)) (fun D1 => ?_)
  refine r_aload_n (pc := 5) 0 d_X12_alphabet_5 rfl rfl ?_
  refine r_iload_n (pc := 6) 1 d_X12_alphabet_6 rfl rfl ?_
  refine r_iconst (pc := 7) (0 : Int32) d_X12_alphabet_7 rfl ?_
  refine r_aload_n (pc := 8) 0 d_X12_alphabet_8 rfl rfl ?_
  refine q_gI (pc := 9) g_X12_116 (K_102 h0) rfl d_X12_alphabet_9 ?_
  refine q_cP (f := (oI Sh)) (av := [.int v1, .int (0 : Int32), .int (gI D1 102 1)]) (st := [.ref 102]) (z_runS ck_X12_in rfl ml_X12_147 cs_X12_in rfl (Nat.le_of_ble_eq_true rfl) d_X12_alphabet_12) (s_X12_in hst h0 (by omega)) kp_I (fun x2 _ => ?_)
  refine r_if_ne (f := (oI Sh)) (pc := 15) 22 d_X12_alphabet_15 (by decide) (fun c3 => ?_) (fun c3 => ?_)
  · refine r_iconst (pc := 22) (0 : Int32) d_X12_alphabet_22 rfl ?_
    refine r_pick [0, 1] (ls' := [(0, .ref 102), (1, .int v1)]) rfl ?_
    exact s_X12_alphabet_23 hst h0 hd (0 : Int32) D1
  · refine r_iconst (pc := 18) (1 : Int32) d_X12_alphabet_18 rfl ?_
    refine r_goto (pc := 19) 23 d_X12_alphabet_19 (by decide) ?_
    refine r_pick [0, 1] (ls' := [(0, .ref 102), (1, .int v1)]) rfl ?_
    exact s_X12_alphabet_23 hst h0 hd (1 : Int32) D1
/-! CoveredSignsModel.cells -/
theorem d_X12_cells_0 : decode (yB m_X12_cells) 0 = .ok (.aload_n 0, 1) := by decide +kernel
theorem d_X12_cells_1 : decode (yB m_X12_cells) 1 = .ok (.getfield 17, 3) := by decide +kernel
theorem d_X12_cells_4 : decode (yB m_X12_cells) 4 = .ok (.aload_n 0, 1) := by decide +kernel
theorem d_X12_cells_5 : decode (yB m_X12_cells) 5 = .ok (.getfield 20, 3) := by decide +kernel
theorem d_X12_cells_8 : decode (yB m_X12_cells) 8 = .ok (.imul, 1) := by decide +kernel
theorem d_X12_cells_9 : decode (yB m_X12_cells) 9 = .ok (.ireturn, 1) := by decide +kernel
def fn_X12_cells (D : zD) : Option Int32 := (some ((gI D 102 14) * (gI D 102 15)))
theorem s_X12_cells {X : zX} {Sh : zSh} {d : Nat} (hst : (zl X).stackTraces = false) (h0 : zSh0 Sh) (hd : 1 ≤ d)  {D : zD} : Sd X m_X12_cells d [.ref 102] (Sh, D) ((oP Sh D) (fn_X12_cells D)) := by
  obtain ⟨d, rfl⟩ : ∃ e, d = e + 1 := ⟨d - 1, by omega⟩
  replace hd : 0 ≤ d := by omega
  refine z_body ck_X12_cells rfl (Nat.le_of_ble_eq_true rfl) rfl hst ?_
  rw [fn_X12_cells]
  show Rn X m_X12_cells (d + 1) 0 [(0, .ref 102)] [] (Sh, D) _
  refine r_aload_n (pc := 0) 0 d_X12_cells_0 rfl rfl ?_
  refine q_gI (pc := 1) g_X12_17 (K_102 h0) rfl d_X12_cells_1 ?_
  refine r_aload_n (pc := 4) 0 d_X12_cells_4 rfl rfl ?_
  refine q_gI (pc := 5) g_X12_20 (K_102 h0) rfl d_X12_cells_5 ?_
  refine r_imul (pc := 8) d_X12_cells_8 ?_
  exact r_iret (pc := 9) rfl d_X12_cells_9
/-! CoveredSignsModel.allCells -/
theorem d_X12_allCells_0 : decode (yB m_X12_allCells) 0 = .ok (.iconst 1, 1) := by decide +kernel
theorem d_X12_allCells_1 : decode (yB m_X12_allCells) 1 = .ok (.aload_n 0, 1) := by decide +kernel
theorem d_X12_allCells_2 : decode (yB m_X12_allCells) 2 = .ok (.invokevirtual 242, 3) := by decide +kernel
theorem d_X12_allCells_5 : decode (yB m_X12_allCells) 5 = .ok (.ishl, 1) := by decide +kernel
theorem d_X12_allCells_6 : decode (yB m_X12_allCells) 6 = .ok (.iconst 1, 1) := by decide +kernel
theorem d_X12_allCells_7 : decode (yB m_X12_allCells) 7 = .ok (.isub, 1) := by decide +kernel
theorem d_X12_allCells_8 : decode (yB m_X12_allCells) 8 = .ok (.ireturn, 1) := by decide +kernel
def fn_X12_allCells (D : zD) : Option Int32 := (fn_X12_cells D).bind fun x1 => (some (((1 : Int32) <<< (x1 &&& 31)) - (1 : Int32)))
theorem s_X12_allCells {X : zX} {Sh : zSh} {d : Nat} (hst : (zl X).stackTraces = false) (h0 : zSh0 Sh) (hd : 2 ≤ d)  {D : zD} : Sd X m_X12_allCells d [.ref 102] (Sh, D) ((oP Sh D) (fn_X12_allCells D)) := by
  obtain ⟨d, rfl⟩ : ∃ e, d = e + 1 := ⟨d - 1, by omega⟩
  replace hd : 1 ≤ d := by omega
  refine z_body ck_X12_allCells rfl (Nat.le_of_ble_eq_true rfl) rfl hst ?_
  rw [fn_X12_allCells]
  show Rn X m_X12_allCells (d + 1) 0 [(0, .ref 102)] [] (Sh, D) _
  refine r_iconst (pc := 0) (1 : Int32) d_X12_allCells_0 rfl ?_
  refine r_aload_n (pc := 1) 0 d_X12_allCells_1 rfl rfl ?_
  refine q_cP (f := (oP Sh D)) (av := [.ref 102]) (st := [.int (1 : Int32)]) (z_runV ck_X12_cells rfl ml_X12_242 ci_X12_cells cv_X12_cells (K_102 h0) (ci := 12) rfl rfl (Nat.le_of_ble_eq_true rfl) d_X12_allCells_2) (s_X12_cells hst h0 (by omega)) kp_P (fun x1 _ => ?_)
  refine r_ishl (pc := 5) d_X12_allCells_5 ?_
  refine r_iconst (pc := 6) (1 : Int32) d_X12_allCells_6 rfl ?_
  refine r_isub (pc := 7) d_X12_allCells_7 ?_
  exact r_iret (pc := 8) rfl d_X12_allCells_8
/-! CoveredSignsModel.clearMade -/
theorem d_X12_clearMade_0 : decode (yB m_X12_clearMade) 0 = .ok (.aload_n 0, 1) := by decide +kernel
theorem d_X12_clearMade_1 : decode (yB m_X12_clearMade) 1 = .ok (.iconst 0, 1) := by decide +kernel
theorem d_X12_clearMade_2 : decode (yB m_X12_clearMade) 2 = .ok (.putfield 245, 3) := by decide +kernel
theorem d_X12_clearMade_5 : decode (yB m_X12_clearMade) 5 = .ok (.return_, 1) := by decide +kernel
def fn_X12_clearMade (D : zD) : Option zD := zlet (sI D 102 32 (0 : Int32)) fun D1 => (some D1)
theorem s_X12_clearMade {X : zX} {Sh : zSh} {d : Nat} (hst : (zl X).stackTraces = false) (h0 : zSh0 Sh) (hd : 1 ≤ d)  {D : zD} : Sd X m_X12_clearMade d [.ref 102] (Sh, D) ((oV Sh) (fn_X12_clearMade D)) := by
  obtain ⟨d, rfl⟩ : ∃ e, d = e + 1 := ⟨d - 1, by omega⟩
  replace hd : 0 ≤ d := by omega
  refine z_body ck_X12_clearMade rfl (Nat.le_of_ble_eq_true rfl) rfl hst ?_
  rw [fn_X12_clearMade]
  show Rn X m_X12_clearMade (d + 1) 0 [(0, .ref 102)] [] (Sh, D) _
  refine r_aload_n (pc := 0) 0 d_X12_clearMade_0 rfl rfl ?_
  refine r_iconst (pc := 1) (0 : Int32) d_X12_clearMade_1 rfl ?_
  refine r_putI (pc := 2) p_X12_245 (K_102 h0) rfl (Or.inl rfl) d_X12_clearMade_2 ?_
  refine r_letD (f := (oV Sh)) (fun D1 => ?_)
  exact r_vret (pc := 5) rfl d_X12_clearMade_5
/-! CoveredSignsModel.makes -/
theorem d_X12_makes_0 : decode (yB m_X12_makes) 0 = .ok (.aload_n 0, 1) := by decide +kernel
theorem d_X12_makes_1 : decode (yB m_X12_makes) 1 = .ok (.getfield 175, 3) := by decide +kernel
theorem d_X12_makes_4 : decode (yB m_X12_makes) 4 = .ok (.ifCond .eq 4, 3) := by decide +kernel
theorem d_X12_makes_7 : decode (yB m_X12_makes) 7 = .ok (.return_, 1) := by decide +kernel
theorem d_X12_makes_8 : decode (yB m_X12_makes) 8 = .ok (.iconst 0, 1) := by decide +kernel
theorem d_X12_makes_9 : decode (yB m_X12_makes) 9 = .ok (.istore_n 2, 1) := by decide +kernel
theorem d_X12_makes_10 : decode (yB m_X12_makes) 10 = .ok (.iload_n 2, 1) := by decide +kernel
theorem d_X12_makes_11 : decode (yB m_X12_makes) 11 = .ok (.aload_n 0, 1) := by decide +kernel
theorem d_X12_makes_12 : decode (yB m_X12_makes) 12 = .ok (.getfield 245, 3) := by decide +kernel
theorem d_X12_makes_15 : decode (yB m_X12_makes) 15 = .ok (.if_icmp .ge 20, 3) := by decide +kernel
theorem d_X12_makes_18 : decode (yB m_X12_makes) 18 = .ok (.aload_n 0, 1) := by decide +kernel
theorem d_X12_makes_19 : decode (yB m_X12_makes) 19 = .ok (.getfield 61, 3) := by decide +kernel
theorem d_X12_makes_22 : decode (yB m_X12_makes) 22 = .ok (.iload_n 2, 1) := by decide +kernel
theorem d_X12_makes_23 : decode (yB m_X12_makes) 23 = .ok (.iaload, 1) := by decide +kernel
theorem d_X12_makes_24 : decode (yB m_X12_makes) 24 = .ok (.iload_n 1, 1) := by decide +kernel
theorem d_X12_makes_25 : decode (yB m_X12_makes) 25 = .ok (.if_icmp .ne 4, 3) := by decide +kernel
theorem d_X12_makes_28 : decode (yB m_X12_makes) 28 = .ok (.return_, 1) := by decide +kernel
theorem d_X12_makes_29 : decode (yB m_X12_makes) 29 = .ok (.iinc 2 1, 3) := by decide +kernel
theorem d_X12_makes_32 : decode (yB m_X12_makes) 32 = .ok (.goto (-22), 3) := by decide +kernel
theorem d_X12_makes_35 : decode (yB m_X12_makes) 35 = .ok (.aload_n 0, 1) := by decide +kernel
theorem d_X12_makes_36 : decode (yB m_X12_makes) 36 = .ok (.getfield 245, 3) := by decide +kernel
theorem d_X12_makes_39 : decode (yB m_X12_makes) 39 = .ok (.sipush 500, 3) := by decide +kernel
theorem d_X12_makes_42 : decode (yB m_X12_makes) 42 = .ok (.if_icmp .ne 9, 3) := by decide +kernel
theorem d_X12_makes_45 : decode (yB m_X12_makes) 45 = .ok (.aload_n 0, 1) := by decide +kernel
theorem d_X12_makes_46 : decode (yB m_X12_makes) 46 = .ok (.iconst 1, 1) := by decide +kernel
theorem d_X12_makes_47 : decode (yB m_X12_makes) 47 = .ok (.putfield 175, 3) := by decide +kernel
theorem d_X12_makes_50 : decode (yB m_X12_makes) 50 = .ok (.return_, 1) := by decide +kernel
theorem d_X12_makes_51 : decode (yB m_X12_makes) 51 = .ok (.aload_n 0, 1) := by decide +kernel
theorem d_X12_makes_52 : decode (yB m_X12_makes) 52 = .ok (.getfield 61, 3) := by decide +kernel
theorem d_X12_makes_55 : decode (yB m_X12_makes) 55 = .ok (.aload_n 0, 1) := by decide +kernel
theorem d_X12_makes_56 : decode (yB m_X12_makes) 56 = .ok (.getfield 245, 3) := by decide +kernel
theorem d_X12_makes_59 : decode (yB m_X12_makes) 59 = .ok (.iload_n 1, 1) := by decide +kernel
theorem d_X12_makes_60 : decode (yB m_X12_makes) 60 = .ok (.iastore, 1) := by decide +kernel
theorem d_X12_makes_61 : decode (yB m_X12_makes) 61 = .ok (.aload_n 0, 1) := by decide +kernel
theorem d_X12_makes_62 : decode (yB m_X12_makes) 62 = .ok (.dup, 1) := by decide +kernel
theorem d_X12_makes_63 : decode (yB m_X12_makes) 63 = .ok (.getfield 245, 3) := by decide +kernel
theorem d_X12_makes_66 : decode (yB m_X12_makes) 66 = .ok (.iconst 1, 1) := by decide +kernel
theorem d_X12_makes_67 : decode (yB m_X12_makes) 67 = .ok (.iadd, 1) := by decide +kernel
theorem d_X12_makes_68 : decode (yB m_X12_makes) 68 = .ok (.putfield 245, 3) := by decide +kernel
theorem d_X12_makes_71 : decode (yB m_X12_makes) 71 = .ok (.return_, 1) := by decide +kernel
def fn_X12_makes_35 (v1 : Int32) (D : zD) : Option zD := (if (gI D 102 32) = (500 : Int32) then (zlet (sI D 102 33 (1 : Int32)) fun D7 => (some D7)) else (zck (gI D 102 32) 501 <| zlet (sI D 161 (gI D 102 32).toNatClampNeg v1) fun D5 => zlet (sI D5 102 32 ((gI D5 102 32) + (1 : Int32))) fun D6 => (some D6)))
def fn_X12_makes_10 (v1 : Int32) : Nat → Int32 → zD → Option zD
  | 0, _, _ => none
  | n + 1, v2, D => (if (gI D 102 32) ≤ v2 then ((fn_X12_makes_35 v1 D)) else (zck v2 501 <| (if (gI D 161 v2.toNatClampNeg) = v1 then ((some D)) else (((fn_X12_makes_10 v1 n) (v2 + (1 : Int32)) D)))))
def fn_X12_makes (v1 : Int32) (D : zD) : Option zD := (if (gI D 102 33) = 0 then ((fn_X12_makes_10 v1 zFU (0 : Int32) D)) else ((some D)))
theorem s_X12_makes_35 {X : zX} {Sh : zSh} {d : Nat} (hst : (zl X).stackTraces = false) (h0 : zSh0 Sh) (hd : 0 ≤ d) {v1 : Int32}  (D : zD)  : Rn X m_X12_makes (d + 1) 35 [(0, .ref 102), (1, .int v1)] [] (Sh, D) ((oV Sh) (fn_X12_makes_35 v1 D)) := by
  rw [fn_X12_makes_35]
  refine r_aload_n (pc := 35) 0 d_X12_makes_35 rfl rfl ?_
  refine q_gI (pc := 36) g_X12_245 (K_102 h0) rfl d_X12_makes_36 ?_
  refine r_sipush (pc := 39) (500 : Int32) d_X12_makes_39 rfl ?_
  refine r_icmp_ne (f := (oV Sh)) (pc := 42) 51 d_X12_makes_42 (by decide) (fun c3 => ?_) (fun c3 => ?_)
  · refine r_aload_n (pc := 51) 0 d_X12_makes_51 rfl rfl ?_
    refine r_getR (pc := 52) g_X12_61 (K_102 h0) rfl (R_102_31 h0) d_X12_makes_52 ?_
    refine r_aload_n (pc := 55) 0 d_X12_makes_55 rfl rfl ?_
    refine q_gI (pc := 56) g_X12_245 (K_102 h0) rfl d_X12_makes_56 ?_
    refine r_iload_n (pc := 59) 1 d_X12_makes_59 rfl rfl ?_
    refine r_ck (f := (oV Sh)) rfl (fun hc4 => ?_)
    refine q_iast (pc := 60) (j := (gI D 102 32).toNatClampNeg) (K_161 h0) hc4 rfl  d_X12_makes_60 ?_
    refine r_letD (f := (oV Sh)) (fun D5 => ?_)
    refine r_aload_n (pc := 61) 0 d_X12_makes_61 rfl rfl ?_
    refine r_dup (pc := 62) d_X12_makes_62 rfl ?_
    refine q_gI (pc := 63) g_X12_245 (K_102 h0) rfl d_X12_makes_63 ?_
    refine r_iconst (pc := 66) (1 : Int32) d_X12_makes_66 rfl ?_
    refine r_iadd (pc := 67) d_X12_makes_67 ?_
    refine r_putI (pc := 68) p_X12_245 (K_102 h0) rfl (Or.inl rfl) d_X12_makes_68 ?_
    refine r_letD (f := (oV Sh)) (fun D6 => ?_)
    exact r_vret (pc := 71) rfl d_X12_makes_71
  · refine r_aload_n (pc := 45) 0 d_X12_makes_45 rfl rfl ?_
    refine r_iconst (pc := 46) (1 : Int32) d_X12_makes_46 rfl ?_
    refine r_putI (pc := 47) p_X12_175 (K_102 h0) rfl (Or.inr ⟨rfl, by decide⟩) d_X12_makes_47 ?_
    refine r_letD (f := (oV Sh)) (fun D7 => ?_)
    exact r_vret (pc := 50) rfl d_X12_makes_50
theorem s_X12_makes_10 {X : zX} {Sh : zSh} {d : Nat} (hst : (zl X).stackTraces = false) (h0 : zSh0 Sh) (hd : 0 ≤ d) {v1 : Int32} : ∀ (n : Nat) (v2 : Int32) (D : zD) , Rn X m_X12_makes (d + 1) 10 [(0, .ref 102), (1, .int v1), (2, .int v2)] [] (Sh, D) ((oV Sh) (fn_X12_makes_10 v1 n v2 D)) := by
  intro n
  induction n with
  | zero => intro v2 D; exact Rn_none rfl
  | succ n hk10 =>
    intro v2 D
    rw [fn_X12_makes_10]
    refine r_iload_n (pc := 10) 2 d_X12_makes_10 rfl rfl ?_
    refine r_aload_n (pc := 11) 0 d_X12_makes_11 rfl rfl ?_
    refine q_gI (pc := 12) g_X12_245 (K_102 h0) rfl d_X12_makes_12 ?_
    refine r_icmp_ge (f := (oV Sh)) (pc := 15) 35 d_X12_makes_15 (by decide) (fun c2 => ?_) (fun c2 => ?_)
    · refine r_pick [0, 1] (ls' := [(0, .ref 102), (1, .int v1)]) rfl ?_
      exact s_X12_makes_35 hst h0 hd D
    · refine r_aload_n (pc := 18) 0 d_X12_makes_18 rfl rfl ?_
      refine r_getR (pc := 19) g_X12_61 (K_102 h0) rfl (R_102_31 h0) d_X12_makes_19 ?_
      refine r_iload_n (pc := 22) 2 d_X12_makes_22 rfl rfl ?_
      refine r_ck (f := (oV Sh)) rfl (fun hc8 => ?_)
      refine q_iald (pc := 23) (j := v2.toNatClampNeg) (K_161 h0) hc8 rfl d_X12_makes_23 ?_
      refine r_iload_n (pc := 24) 1 d_X12_makes_24 rfl rfl ?_
      refine r_icmp_ne (f := (oV Sh)) (pc := 25) 29 d_X12_makes_25 (by decide) (fun c9 => ?_) (fun c9 => ?_)
      · refine r_iinc (pc := 29) ((v2 + (1 : Int32))) 2 (ls' := [(2, .int (v2 + (1 : Int32))), (0, .ref 102), (1, .int v1)]) d_X12_makes_29 rfl rfl (Nat.le_of_ble_eq_true rfl) rfl ?_
        refine r_goto (pc := 32) 10 d_X12_makes_32 (by decide) ?_
        refine r_pick [1, 2, 0] (ls' := [(0, .ref 102), (1, .int v1), (2, .int (v2 + (1 : Int32)))]) rfl ?_
        exact hk10 (v2 + (1 : Int32)) D 
      · exact r_vret (pc := 28) rfl d_X12_makes_28
theorem s_X12_makes {X : zX} {Sh : zSh} {d : Nat} (hst : (zl X).stackTraces = false) (h0 : zSh0 Sh) (hd : 1 ≤ d) {v1 : Int32} {D : zD} : Sd X m_X12_makes d [.ref 102, .int v1] (Sh, D) ((oV Sh) (fn_X12_makes v1 D)) := by
  obtain ⟨d, rfl⟩ : ∃ e, d = e + 1 := ⟨d - 1, by omega⟩
  replace hd : 0 ≤ d := by omega
  refine z_body ck_X12_makes rfl (Nat.le_of_ble_eq_true rfl) rfl hst ?_
  rw [fn_X12_makes]
  show Rn X m_X12_makes (d + 1) 0 [(0, .ref 102), (1, .int v1)] [] (Sh, D) _
  refine r_aload_n (pc := 0) 0 d_X12_makes_0 rfl rfl ?_
  refine q_gI (pc := 1) g_X12_175 (K_102 h0) rfl d_X12_makes_1 ?_
  refine r_if_eq (f := (oV Sh)) (pc := 4) 8 d_X12_makes_4 (by decide) (fun c1 => ?_) (fun c1 => ?_)
  · refine r_iconst (pc := 8) (0 : Int32) d_X12_makes_8 rfl ?_
    refine r_istore_n (pc := 9) (ls' := [(2, .int (0 : Int32)), (0, .ref 102), (1, .int v1)]) d_X12_makes_9 rfl (Nat.le_of_ble_eq_true rfl) rfl ?_
    refine r_pick [1, 2, 0] (ls' := [(0, .ref 102), (1, .int v1), (2, .int (0 : Int32))]) rfl ?_
    exact s_X12_makes_10 hst h0 hd zFU  (0 : Int32) D
  · exact r_vret (pc := 7) rfl d_X12_makes_7
/-! CoveredSignsModel.lays -/
theorem d_X12_lays_0 : decode (yB m_X12_lays) 0 = .ok (.aload_n 0, 1) := by decide +kernel
theorem d_X12_lays_1 : decode (yB m_X12_lays) 1 = .ok (.getfield 58, 3) := by decide +kernel
theorem d_X12_lays_4 : decode (yB m_X12_lays) 4 = .ok (.aload_n 0, 1) := by decide +kernel
theorem d_X12_lays_5 : decode (yB m_X12_lays) 5 = .ok (.getfield 179, 3) := by decide +kernel
theorem d_X12_lays_8 : decode (yB m_X12_lays) 8 = .ok (.aload_n 0, 1) := by decide +kernel
theorem d_X12_lays_9 : decode (yB m_X12_lays) 9 = .ok (.getfield 245, 3) := by decide +kernel
theorem d_X12_lays_12 : decode (yB m_X12_lays) 12 = .ok (.iastore, 1) := by decide +kernel
theorem d_X12_lays_13 : decode (yB m_X12_lays) 13 = .ok (.iconst 0, 1) := by decide +kernel
theorem d_X12_lays_14 : decode (yB m_X12_lays) 14 = .ok (.istore_n 1, 1) := by decide +kernel
theorem d_X12_lays_15 : decode (yB m_X12_lays) 15 = .ok (.iload_n 1, 1) := by decide +kernel
theorem d_X12_lays_16 : decode (yB m_X12_lays) 16 = .ok (.aload_n 0, 1) := by decide +kernel
theorem d_X12_lays_17 : decode (yB m_X12_lays) 17 = .ok (.getfield 245, 3) := by decide +kernel
theorem d_X12_lays_20 : decode (yB m_X12_lays) 20 = .ok (.if_icmp .ge 26, 3) := by decide +kernel
theorem d_X12_lays_23 : decode (yB m_X12_lays) 23 = .ok (.aload_n 0, 1) := by decide +kernel
theorem d_X12_lays_24 : decode (yB m_X12_lays) 24 = .ok (.getfield 55, 3) := by decide +kernel
theorem d_X12_lays_27 : decode (yB m_X12_lays) 27 = .ok (.aload_n 0, 1) := by decide +kernel
theorem d_X12_lays_28 : decode (yB m_X12_lays) 28 = .ok (.getfield 179, 3) := by decide +kernel
theorem d_X12_lays_31 : decode (yB m_X12_lays) 31 = .ok (.aaload, 1) := by decide +kernel
theorem d_X12_lays_32 : decode (yB m_X12_lays) 32 = .ok (.iload_n 1, 1) := by decide +kernel
theorem d_X12_lays_33 : decode (yB m_X12_lays) 33 = .ok (.aload_n 0, 1) := by decide +kernel
theorem d_X12_lays_34 : decode (yB m_X12_lays) 34 = .ok (.getfield 61, 3) := by decide +kernel
theorem d_X12_lays_37 : decode (yB m_X12_lays) 37 = .ok (.iload_n 1, 1) := by decide +kernel
theorem d_X12_lays_38 : decode (yB m_X12_lays) 38 = .ok (.iaload, 1) := by decide +kernel
theorem d_X12_lays_39 : decode (yB m_X12_lays) 39 = .ok (.iastore, 1) := by decide +kernel
theorem d_X12_lays_40 : decode (yB m_X12_lays) 40 = .ok (.iinc 1 1, 3) := by decide +kernel
theorem d_X12_lays_43 : decode (yB m_X12_lays) 43 = .ok (.goto (-28), 3) := by decide +kernel
theorem d_X12_lays_46 : decode (yB m_X12_lays) 46 = .ok (.aload_n 0, 1) := by decide +kernel
theorem d_X12_lays_47 : decode (yB m_X12_lays) 47 = .ok (.dup, 1) := by decide +kernel
theorem d_X12_lays_48 : decode (yB m_X12_lays) 48 = .ok (.getfield 179, 3) := by decide +kernel
theorem d_X12_lays_51 : decode (yB m_X12_lays) 51 = .ok (.iconst 1, 1) := by decide +kernel
theorem d_X12_lays_52 : decode (yB m_X12_lays) 52 = .ok (.iadd, 1) := by decide +kernel
theorem d_X12_lays_53 : decode (yB m_X12_lays) 53 = .ok (.putfield 179, 3) := by decide +kernel
theorem d_X12_lays_56 : decode (yB m_X12_lays) 56 = .ok (.return_, 1) := by decide +kernel
def fn_X12_lays_15  : Nat → Int32 → zD → Option zD
  | 0, _, _ => none
  | n + 1, v1, D => (if (gI D 102 32) ≤ v1 then (zlet (sI D 102 27 ((gI D 102 27) + (1 : Int32))) fun D4 => (some D4)) else (zck (gI D 102 27) 30 <| zck v1 501 <| zck v1 501 <| zlet (sI D (130 + (gI D 102 27).toNatClampNeg) v1.toNatClampNeg (gI D 161 v1.toNatClampNeg)) fun D8 => ((fn_X12_lays_15  n) (v1 + (1 : Int32)) D8)))
def fn_X12_lays (D : zD) : Option zD := zck (gI D 102 27) 30 <| zlet (sI D 160 (gI D 102 27).toNatClampNeg (gI D 102 32)) fun D2 => (fn_X12_lays_15 zFU (0 : Int32) D2)
theorem s_X12_lays_15 {X : zX} {Sh : zSh} {d : Nat} (hst : (zl X).stackTraces = false) (h0 : zSh0 Sh) (hd : 0 ≤ d)  : ∀ (n : Nat) (v1 : Int32) (D : zD) , Rn X m_X12_lays (d + 1) 15 [(0, .ref 102), (1, .int v1)] [] (Sh, D) ((oV Sh) (fn_X12_lays_15  n v1 D)) := by
  intro n
  induction n with
  | zero => intro v1 D; exact Rn_none rfl
  | succ n hk15 =>
    intro v1 D
    rw [fn_X12_lays_15]
    refine r_iload_n (pc := 15) 1 d_X12_lays_15 rfl rfl ?_
    refine r_aload_n (pc := 16) 0 d_X12_lays_16 rfl rfl ?_
    refine q_gI (pc := 17) g_X12_245 (K_102 h0) rfl d_X12_lays_17 ?_
    refine r_icmp_ge (f := (oV Sh)) (pc := 20) 46 d_X12_lays_20 (by decide) (fun c3 => ?_) (fun c3 => ?_)
    · refine r_aload_n (pc := 46) 0 d_X12_lays_46 rfl rfl ?_
      refine r_dup (pc := 47) d_X12_lays_47 rfl ?_
      refine q_gI (pc := 48) g_X12_179 (K_102 h0) rfl d_X12_lays_48 ?_
      refine r_iconst (pc := 51) (1 : Int32) d_X12_lays_51 rfl ?_
      refine r_iadd (pc := 52) d_X12_lays_52 ?_
      refine r_putI (pc := 53) p_X12_179 (K_102 h0) rfl (Or.inl rfl) d_X12_lays_53 ?_
      refine r_letD (f := (oV Sh)) (fun D4 => ?_)
      exact r_vret (pc := 56) rfl d_X12_lays_56
    · refine r_aload_n (pc := 23) 0 d_X12_lays_23 rfl rfl ?_
      refine r_getR (pc := 24) g_X12_55 (K_102 h0) rfl (R_102_29 h0) d_X12_lays_24 ?_
      refine r_aload_n (pc := 27) 0 d_X12_lays_27 rfl rfl ?_
      refine q_gI (pc := 28) g_X12_179 (K_102 h0) rfl d_X12_lays_28 ?_
      refine r_ck (f := (oV Sh)) rfl (fun hc5 => ?_)
      refine q_aald (pc := 31) (j := (gI D 102 27).toNatClampNeg) (K_129 h0) (Or.inl ⟨rfl, rfl⟩) hc5 rfl (RW_129 h0 _ (z_lt hc5)) d_X12_lays_31 ?_
      refine r_iload_n (pc := 32) 1 d_X12_lays_32 rfl rfl ?_
      refine r_aload_n (pc := 33) 0 d_X12_lays_33 rfl rfl ?_
      refine r_getR (pc := 34) g_X12_61 (K_102 h0) rfl (R_102_31 h0) d_X12_lays_34 ?_
      refine r_iload_n (pc := 37) 1 d_X12_lays_37 rfl rfl ?_
      refine r_ck (f := (oV Sh)) rfl (fun hc6 => ?_)
      refine q_iald (pc := 38) (j := v1.toNatClampNeg) (K_161 h0) hc6 rfl d_X12_lays_38 ?_
      refine r_ck (f := (oV Sh)) rfl (fun hc7 => ?_)
      refine q_iast (pc := 39) (j := v1.toNatClampNeg) (RK_129 h0 _ (z_lt hc5)) hc7 rfl  d_X12_lays_39 ?_
      refine r_letD (f := (oV Sh)) (fun D8 => ?_)
      refine r_iinc (pc := 40) ((v1 + (1 : Int32))) 1 (ls' := [(1, .int (v1 + (1 : Int32))), (0, .ref 102)]) d_X12_lays_40 rfl rfl (Nat.le_of_ble_eq_true rfl) rfl ?_
      refine r_goto (pc := 43) 15 d_X12_lays_43 (by decide) ?_
      refine r_pick [1, 0] (ls' := [(0, .ref 102), (1, .int (v1 + (1 : Int32)))]) rfl ?_
      exact hk15 (v1 + (1 : Int32)) D8 
theorem s_X12_lays {X : zX} {Sh : zSh} {d : Nat} (hst : (zl X).stackTraces = false) (h0 : zSh0 Sh) (hd : 1 ≤ d)  {D : zD} : Sd X m_X12_lays d [.ref 102] (Sh, D) ((oV Sh) (fn_X12_lays D)) := by
  obtain ⟨d, rfl⟩ : ∃ e, d = e + 1 := ⟨d - 1, by omega⟩
  replace hd : 0 ≤ d := by omega
  refine z_body ck_X12_lays rfl (Nat.le_of_ble_eq_true rfl) rfl hst ?_
  rw [fn_X12_lays]
  show Rn X m_X12_lays (d + 1) 0 [(0, .ref 102)] [] (Sh, D) _
  refine r_aload_n (pc := 0) 0 d_X12_lays_0 rfl rfl ?_
  refine r_getR (pc := 1) g_X12_58 (K_102 h0) rfl (R_102_30 h0) d_X12_lays_1 ?_
  refine r_aload_n (pc := 4) 0 d_X12_lays_4 rfl rfl ?_
  refine q_gI (pc := 5) g_X12_179 (K_102 h0) rfl d_X12_lays_5 ?_
  refine r_aload_n (pc := 8) 0 d_X12_lays_8 rfl rfl ?_
  refine q_gI (pc := 9) g_X12_245 (K_102 h0) rfl d_X12_lays_9 ?_
  refine r_ck (f := (oV Sh)) rfl (fun hc1 => ?_)
  refine q_iast (pc := 12) (j := (gI D 102 27).toNatClampNeg) (K_160 h0) hc1 rfl  d_X12_lays_12 ?_
  refine r_letD (f := (oV Sh)) (fun D2 => ?_)
  refine r_iconst (pc := 13) (0 : Int32) d_X12_lays_13 rfl ?_
  refine r_istore_n (pc := 14) (ls' := [(1, .int (0 : Int32)), (0, .ref 102)]) d_X12_lays_14 rfl (Nat.le_of_ble_eq_true rfl) rfl ?_
  refine r_pick [1, 0] (ls' := [(0, .ref 102), (1, .int (0 : Int32))]) rfl ?_
  exact s_X12_lays_15 hst h0 hd zFU  (0 : Int32) D2
/-! CoveredSignsModel.opens -/
theorem d_X12_opens_0 : decode (yB m_X12_opens) 0 = .ok (.aload_n 0, 1) := by decide +kernel
theorem d_X12_opens_1 : decode (yB m_X12_opens) 1 = .ok (.getfield 172, 3) := by decide +kernel
theorem d_X12_opens_4 : decode (yB m_X12_opens) 4 = .ok (.bipush 6, 2) := by decide +kernel
theorem d_X12_opens_6 : decode (yB m_X12_opens) 6 = .ok (.if_icmp .ne 12, 3) := by decide +kernel
theorem d_X12_opens_9 : decode (yB m_X12_opens) 9 = .ok (.aload_n 0, 1) := by decide +kernel
theorem d_X12_opens_10 : decode (yB m_X12_opens) 10 = .ok (.iconst 3, 1) := by decide +kernel
theorem d_X12_opens_11 : decode (yB m_X12_opens) 11 = .ok (.aload_n 0, 1) := by decide +kernel
theorem d_X12_opens_12 : decode (yB m_X12_opens) 12 = .ok (.getfield 122, 3) := by decide +kernel
theorem d_X12_opens_15 : decode (yB m_X12_opens) 15 = .ok (.invokevirtual 142, 3) := by decide +kernel
theorem d_X12_opens_18 : decode (yB m_X12_opens) 18 = .ok (.aload_n 0, 1) := by decide +kernel
theorem d_X12_opens_19 : decode (yB m_X12_opens) 19 = .ok (.dup, 1) := by decide +kernel
theorem d_X12_opens_20 : decode (yB m_X12_opens) 20 = .ok (.getfield 172, 3) := by decide +kernel
theorem d_X12_opens_23 : decode (yB m_X12_opens) 23 = .ok (.iconst 1, 1) := by decide +kernel
theorem d_X12_opens_24 : decode (yB m_X12_opens) 24 = .ok (.iadd, 1) := by decide +kernel
theorem d_X12_opens_25 : decode (yB m_X12_opens) 25 = .ok (.putfield 172, 3) := by decide +kernel
theorem d_X12_opens_28 : decode (yB m_X12_opens) 28 = .ok (.aload_n 0, 1) := by decide +kernel
theorem d_X12_opens_29 : decode (yB m_X12_opens) 29 = .ok (.dup, 1) := by decide +kernel
theorem d_X12_opens_30 : decode (yB m_X12_opens) 30 = .ok (.getfield 122, 3) := by decide +kernel
theorem d_X12_opens_33 : decode (yB m_X12_opens) 33 = .ok (.iload_n 1, 1) := by decide +kernel
theorem d_X12_opens_34 : decode (yB m_X12_opens) 34 = .ok (.iadd, 1) := by decide +kernel
theorem d_X12_opens_35 : decode (yB m_X12_opens) 35 = .ok (.putfield 122, 3) := by decide +kernel
theorem d_X12_opens_38 : decode (yB m_X12_opens) 38 = .ok (.return_, 1) := by decide +kernel
def fn_X12_opens_18 (v1 : Int32) (D : zD) : Option zD := zlet (sI D 102 8 ((gI D 102 8) + (1 : Int32))) fun D2 => zlet (sI D2 102 4 ((gI D2 102 4) + v1)) fun D3 => (some D3)
def fn_X12_opens (v1 : Int32) (D : zD) : Option zD := (if (gI D 102 8) = (6 : Int32) then ((fn_X12_wrong (3 : Int32) (gI D 102 4) D).bind fun D4 => (fn_X12_opens_18 v1 D4)) else ((fn_X12_opens_18 v1 D)))
theorem s_X12_opens_18 {X : zX} {Sh : zSh} {d : Nat} (hst : (zl X).stackTraces = false) (h0 : zSh0 Sh) (hd : 1 ≤ d) {v1 : Int32}  (D : zD)  : Rn X m_X12_opens (d + 1) 18 [(0, .ref 102), (1, .int v1)] [] (Sh, D) ((oV Sh) (fn_X12_opens_18 v1 D)) := by
  rw [fn_X12_opens_18]
  refine r_aload_n (pc := 18) 0 d_X12_opens_18 rfl rfl ?_
  refine r_dup (pc := 19) d_X12_opens_19 rfl ?_
  refine q_gI (pc := 20) g_X12_172 (K_102 h0) rfl d_X12_opens_20 ?_
  refine r_iconst (pc := 23) (1 : Int32) d_X12_opens_23 rfl ?_
  refine r_iadd (pc := 24) d_X12_opens_24 ?_
  refine r_putI (pc := 25) p_X12_172 (K_102 h0) rfl (Or.inl rfl) d_X12_opens_25 ?_
  refine r_letD (f := (oV Sh)) (fun D2 => ?_)
  refine r_aload_n (pc := 28) 0 d_X12_opens_28 rfl rfl ?_
  refine r_dup (pc := 29) d_X12_opens_29 rfl ?_
  refine q_gI (pc := 30) g_X12_122 (K_102 h0) rfl d_X12_opens_30 ?_
  refine r_iload_n (pc := 33) 1 d_X12_opens_33 rfl rfl ?_
  refine r_iadd (pc := 34) d_X12_opens_34 ?_
  refine r_putI (pc := 35) p_X12_122 (K_102 h0) rfl (Or.inl rfl) d_X12_opens_35 ?_
  refine r_letD (f := (oV Sh)) (fun D3 => ?_)
  exact r_vret (pc := 38) rfl d_X12_opens_38
theorem s_X12_opens {X : zX} {Sh : zSh} {d : Nat} (hst : (zl X).stackTraces = false) (h0 : zSh0 Sh) (hd : 2 ≤ d) {v1 : Int32} {D : zD} : Sd X m_X12_opens d [.ref 102, .int v1] (Sh, D) ((oV Sh) (fn_X12_opens v1 D)) := by
  obtain ⟨d, rfl⟩ : ∃ e, d = e + 1 := ⟨d - 1, by omega⟩
  replace hd : 1 ≤ d := by omega
  refine z_body ck_X12_opens rfl (Nat.le_of_ble_eq_true rfl) rfl hst ?_
  rw [fn_X12_opens]
  show Rn X m_X12_opens (d + 1) 0 [(0, .ref 102), (1, .int v1)] [] (Sh, D) _
  refine r_aload_n (pc := 0) 0 d_X12_opens_0 rfl rfl ?_
  refine q_gI (pc := 1) g_X12_172 (K_102 h0) rfl d_X12_opens_1 ?_
  refine r_bipush (pc := 4) (6 : Int32) d_X12_opens_4 rfl ?_
  refine r_icmp_ne (f := (oV Sh)) (pc := 6) 18 d_X12_opens_6 (by decide) (fun c1 => ?_) (fun c1 => ?_)
  · refine r_pick [0, 1] (ls' := [(0, .ref 102), (1, .int v1)]) rfl ?_
    exact s_X12_opens_18 hst h0 hd D
  · refine r_aload_n (pc := 9) 0 d_X12_opens_9 rfl rfl ?_
    refine r_iconst (pc := 10) (3 : Int32) d_X12_opens_10 rfl ?_
    refine r_aload_n (pc := 11) 0 d_X12_opens_11 rfl rfl ?_
    refine q_gI (pc := 12) g_X12_122 (K_102 h0) rfl d_X12_opens_12 ?_
    refine q_cV (f := (oV Sh)) (av := [.ref 102, .int (3 : Int32), .int (gI D 102 4)]) (st := []) (z_runV ck_X12_wrong rfl ml_X12_142 ci_X12_wrong cv_X12_wrong (K_102 h0) (ci := 12) rfl rfl (Nat.le_of_ble_eq_true rfl) d_X12_opens_15) (s_X12_wrong hst h0 (by omega)) kp_V (fun D4 _ => ?_)
    refine r_pick [0, 1] (ls' := [(0, .ref 102), (1, .int v1)]) rfl ?_
    exact s_X12_opens_18 hst h0 hd D4
/-! CoveredSignsModel.anyOf -/
theorem d_X12_anyOf_0 : decode (yB m_X12_anyOf) 0 = .ok (.iload_n 2, 1) := by decide +kernel
theorem d_X12_anyOf_1 : decode (yB m_X12_anyOf) 1 = .ok (.ifCond .ne 9, 3) := by decide +kernel
theorem d_X12_anyOf_4 : decode (yB m_X12_anyOf) 4 = .ok (.aload_n 0, 1) := by decide +kernel
theorem d_X12_anyOf_5 : decode (yB m_X12_anyOf) 5 = .ok (.iload_n 3, 1) := by decide +kernel
theorem d_X12_anyOf_6 : decode (yB m_X12_anyOf) 6 = .ok (.invokevirtual 257, 3) := by decide +kernel
theorem d_X12_anyOf_9 : decode (yB m_X12_anyOf) 9 = .ok (.return_, 1) := by decide +kernel
theorem d_X12_anyOf_10 : decode (yB m_X12_anyOf) 10 = .ok (.iload_n 1, 1) := by decide +kernel
theorem d_X12_anyOf_11 : decode (yB m_X12_anyOf) 11 = .ok (.istore 4, 2) := by decide +kernel
theorem d_X12_anyOf_13 : decode (yB m_X12_anyOf) 13 = .ok (.iload 4, 2) := by decide +kernel
theorem d_X12_anyOf_15 : decode (yB m_X12_anyOf) 15 = .ok (.aload_n 0, 1) := by decide +kernel
theorem d_X12_anyOf_16 : decode (yB m_X12_anyOf) 16 = .ok (.invokevirtual 242, 3) := by decide +kernel
theorem d_X12_anyOf_19 : decode (yB m_X12_anyOf) 19 = .ok (.if_icmp .ge 33, 3) := by decide +kernel
theorem d_X12_anyOf_22 : decode (yB m_X12_anyOf) 22 = .ok (.aload_n 0, 1) := by decide +kernel
theorem d_X12_anyOf_23 : decode (yB m_X12_anyOf) 23 = .ok (.getfield 175, 3) := by decide +kernel
theorem d_X12_anyOf_26 : decode (yB m_X12_anyOf) 26 = .ok (.ifCond .ne 26, 3) := by decide +kernel
theorem d_X12_anyOf_29 : decode (yB m_X12_anyOf) 29 = .ok (.aload_n 0, 1) := by decide +kernel
theorem d_X12_anyOf_30 : decode (yB m_X12_anyOf) 30 = .ok (.iload 4, 2) := by decide +kernel
theorem d_X12_anyOf_32 : decode (yB m_X12_anyOf) 32 = .ok (.iconst 1, 1) := by decide +kernel
theorem d_X12_anyOf_33 : decode (yB m_X12_anyOf) 33 = .ok (.iadd, 1) := by decide +kernel
theorem d_X12_anyOf_34 : decode (yB m_X12_anyOf) 34 = .ok (.iload_n 2, 1) := by decide +kernel
theorem d_X12_anyOf_35 : decode (yB m_X12_anyOf) 35 = .ok (.iconst 1, 1) := by decide +kernel
theorem d_X12_anyOf_36 : decode (yB m_X12_anyOf) 36 = .ok (.isub, 1) := by decide +kernel
theorem d_X12_anyOf_37 : decode (yB m_X12_anyOf) 37 = .ok (.iload_n 3, 1) := by decide +kernel
theorem d_X12_anyOf_38 : decode (yB m_X12_anyOf) 38 = .ok (.iconst 1, 1) := by decide +kernel
theorem d_X12_anyOf_39 : decode (yB m_X12_anyOf) 39 = .ok (.iload 4, 2) := by decide +kernel
theorem d_X12_anyOf_41 : decode (yB m_X12_anyOf) 41 = .ok (.ishl, 1) := by decide +kernel
theorem d_X12_anyOf_42 : decode (yB m_X12_anyOf) 42 = .ok (.ior, 1) := by decide +kernel
theorem d_X12_anyOf_43 : decode (yB m_X12_anyOf) 43 = .ok (.invokevirtual 282, 3) := by decide +kernel
theorem d_X12_anyOf_46 : decode (yB m_X12_anyOf) 46 = .ok (.iinc 4 1, 3) := by decide +kernel
theorem d_X12_anyOf_49 : decode (yB m_X12_anyOf) 49 = .ok (.goto (-36), 3) := by decide +kernel
theorem d_X12_anyOf_52 : decode (yB m_X12_anyOf) 52 = .ok (.return_, 1) := by decide +kernel
def fn_X12_anyOf_13 (f_X12_anyOf : Int32 → Int32 → Int32 → zD → Option zD) (v1 : Int32) (v2 : Int32) (v3 : Int32) : Nat → Int32 → zD → Option zD
  | 0, _, _ => none
  | n + 1, v4, D => (fn_X12_cells D).bind fun x2 => (if x2 ≤ v4 then ((some D)) else ((if (gI D 102 33) = 0 then ((f_X12_anyOf (v4 + (1 : Int32)) (v2 - (1 : Int32)) (v3 ||| ((1 : Int32) <<< (v4 &&& 31))) D).bind fun D5 => ((fn_X12_anyOf_13 f_X12_anyOf v1 v2 v3 n) (v4 + (1 : Int32)) D5)) else ((some D)))))
def fn_X12_anyOf (f_X12_anyOf : Int32 → Int32 → Int32 → zD → Option zD) (v1 : Int32) (v2 : Int32) (v3 : Int32) (D : zD) : Option zD := (if v2 = 0 then ((fn_X12_makes v3 D).bind fun D6 => (some D6)) else ((fn_X12_anyOf_13 f_X12_anyOf v1 v2 v3 zFU v1 D)))
theorem s_X12_anyOf_13 {X : zX} {Sh : zSh} {d : Nat} (hst : (zl X).stackTraces = false) (h0 : zSh0 Sh) (hd : 1 ≤ d) {v1 : Int32} {v2 : Int32} {v3 : Int32} (f_X12_anyOf : Int32 → Int32 → Int32 → zD → Option zD) (hf_X12_anyOf : ∀ (v1 : Int32) (v2 : Int32) (v3 : Int32) (D : zD), Sd X m_X12_anyOf d [.ref 102, .int v1, .int v2, .int v3] (Sh, D) ((oV Sh) (f_X12_anyOf v1 v2 v3 D))) : ∀ (n : Nat) (v4 : Int32) (D : zD) , Rn X m_X12_anyOf (d + 1) 13 [(0, .ref 102), (2, .int v2), (3, .int v3), (4, .int v4)] [] (Sh, D) ((oV Sh) (fn_X12_anyOf_13 f_X12_anyOf v1 v2 v3 n v4 D)) := by
  intro n
  induction n with
  | zero => intro v4 D; exact Rn_none rfl
  | succ n hk13 =>
    intro v4 D
    rw [fn_X12_anyOf_13]
    refine r_iload (pc := 13) 3 d_X12_anyOf_13 rfl ?_
    refine r_aload_n (pc := 15) 0 d_X12_anyOf_15 rfl rfl ?_
    refine q_cP (f := (oV Sh)) (av := [.ref 102]) (st := [.int v4]) (z_runV ck_X12_cells rfl ml_X12_242 ci_X12_cells cv_X12_cells (K_102 h0) (ci := 12) rfl rfl (Nat.le_of_ble_eq_true rfl) d_X12_anyOf_16) (s_X12_cells hst h0 (by omega)) kp_V (fun x2 _ => ?_)
    refine r_icmp_ge (f := (oV Sh)) (pc := 19) 52 d_X12_anyOf_19 (by decide) (fun c3 => ?_) (fun c3 => ?_)
    · exact r_vret (pc := 52) rfl d_X12_anyOf_52
    · refine r_aload_n (pc := 22) 0 d_X12_anyOf_22 rfl rfl ?_
      refine q_gI (pc := 23) g_X12_175 (K_102 h0) rfl d_X12_anyOf_23 ?_
      refine r_if_ne (f := (oV Sh)) (pc := 26) 52 d_X12_anyOf_26 (by decide) (fun c4 => ?_) (fun c4 => ?_)
      · exact r_vret (pc := 52) rfl d_X12_anyOf_52
      · refine r_aload_n (pc := 29) 0 d_X12_anyOf_29 rfl rfl ?_
        refine r_iload (pc := 30) 3 d_X12_anyOf_30 rfl ?_
        refine r_iconst (pc := 32) (1 : Int32) d_X12_anyOf_32 rfl ?_
        refine r_iadd (pc := 33) d_X12_anyOf_33 ?_
        refine r_iload_n (pc := 34) 1 d_X12_anyOf_34 rfl rfl ?_
        refine r_iconst (pc := 35) (1 : Int32) d_X12_anyOf_35 rfl ?_
        refine r_isub (pc := 36) d_X12_anyOf_36 ?_
        refine r_iload_n (pc := 37) 2 d_X12_anyOf_37 rfl rfl ?_
        refine r_iconst (pc := 38) (1 : Int32) d_X12_anyOf_38 rfl ?_
        refine r_iload (pc := 39) 3 d_X12_anyOf_39 rfl ?_
        refine r_ishl (pc := 41) d_X12_anyOf_41 ?_
        refine r_ior (pc := 42) d_X12_anyOf_42 ?_
        refine q_cV (f := (oV Sh)) (av := [.ref 102, .int (v4 + (1 : Int32)), .int (v2 - (1 : Int32)), .int (v3 ||| ((1 : Int32) <<< (v4 &&& 31)))]) (st := []) (z_runV ck_X12_anyOf rfl ml_X12_282 ci_X12_anyOf cv_X12_anyOf (K_102 h0) (ci := 12) rfl rfl (Nat.le_of_ble_eq_true rfl) d_X12_anyOf_43) (hf_X12_anyOf (v4 + (1 : Int32)) (v2 - (1 : Int32)) (v3 ||| ((1 : Int32) <<< (v4 &&& 31))) D) kp_V (fun D5 _ => ?_)
        refine r_iinc (pc := 46) ((v4 + (1 : Int32))) 3 (ls' := [(4, .int (v4 + (1 : Int32))), (0, .ref 102), (2, .int v2), (3, .int v3)]) d_X12_anyOf_46 rfl rfl (Nat.le_of_ble_eq_true rfl) rfl ?_
        refine r_goto (pc := 49) 13 d_X12_anyOf_49 (by decide) ?_
        refine r_pick [1, 2, 3, 0] (ls' := [(0, .ref 102), (2, .int v2), (3, .int v3), (4, .int (v4 + (1 : Int32)))]) rfl ?_
        exact hk13 (v4 + (1 : Int32)) D5 
theorem b_X12_anyOf {X : zX} {Sh : zSh} {d : Nat} (hst : (zl X).stackTraces = false) (h0 : zSh0 Sh) (hd : 1 ≤ d) {v1 : Int32} {v2 : Int32} {v3 : Int32} (f_X12_anyOf : Int32 → Int32 → Int32 → zD → Option zD) (hf_X12_anyOf : ∀ (v1 : Int32) (v2 : Int32) (v3 : Int32) (D : zD), Sd X m_X12_anyOf d [.ref 102, .int v1, .int v2, .int v3] (Sh, D) ((oV Sh) (f_X12_anyOf v1 v2 v3 D))) {D : zD} : Sd X m_X12_anyOf (d + 1) [.ref 102, .int v1, .int v2, .int v3] (Sh, D) ((oV Sh) (fn_X12_anyOf f_X12_anyOf v1 v2 v3 D)) := by
  refine z_body ck_X12_anyOf rfl (Nat.le_of_ble_eq_true rfl) rfl hst ?_
  rw [fn_X12_anyOf]
  show Rn X m_X12_anyOf (d + 1) 0 [(0, .ref 102), (1, .int v1), (2, .int v2), (3, .int v3)] [] (Sh, D) _
  refine r_iload_n (pc := 0) 2 d_X12_anyOf_0 rfl rfl ?_
  refine r_if_ne (f := (oV Sh)) (pc := 1) 10 d_X12_anyOf_1 (by decide) (fun c1 => ?_) (fun c1 => ?_)
  · refine r_iload_n (pc := 10) 1 d_X12_anyOf_10 rfl rfl ?_
    refine r_istore (pc := 11) (ls' := [(4, .int v1), (0, .ref 102), (1, .int v1), (2, .int v2), (3, .int v3)]) d_X12_anyOf_11 (Nat.le_of_ble_eq_true rfl) rfl ?_
    refine r_pick [1, 3, 4, 0] (ls' := [(0, .ref 102), (2, .int v2), (3, .int v3), (4, .int v1)]) rfl ?_
    exact s_X12_anyOf_13 hst h0 hd f_X12_anyOf hf_X12_anyOf zFU  v1 D
  · refine r_aload_n (pc := 4) 0 d_X12_anyOf_4 rfl rfl ?_
    refine r_iload_n (pc := 5) 3 d_X12_anyOf_5 rfl rfl ?_
    refine q_cV (f := (oV Sh)) (av := [.ref 102, .int v3]) (st := []) (z_runV ck_X12_makes rfl ml_X12_257 ci_X12_makes cv_X12_makes (K_102 h0) (ci := 12) rfl rfl (Nat.le_of_ble_eq_true rfl) d_X12_anyOf_6) (s_X12_makes hst h0 (by omega)) kp_V (fun D6 _ => ?_)
    exact r_vret (pc := 9) rfl d_X12_anyOf_9
def fn_X12_anyOfR : Nat → Int32 → Int32 → Int32 → zD → Option zD
  | 0, _, _, _, _ => none
  | n + 1, v1, v2, v3, D => fn_X12_anyOf (fn_X12_anyOfR n) v1 v2 v3 D
theorem s_X12_anyOfR {X : zX} {Sh : zSh} (hst : (zl X).stackTraces = false) (h0 : zSh0 Sh) : ∀ (n d : Nat) (hd : n * 1 + 1 ≤ d) (v1 : Int32) (v2 : Int32) (v3 : Int32) (D : zD) , Sd X m_X12_anyOf d [.ref 102, .int v1, .int v2, .int v3] (Sh, D) ((oV Sh) (fn_X12_anyOfR n v1 v2 v3 D))
  | 0, d, _, _, _, _, _ => fun o M' h => by cases h
  | n + 1, d, hd, v1, v2, v3, D => by
    obtain ⟨d, rfl⟩ : ∃ e, d = e + 1 := ⟨d - 1, by omega⟩
    exact b_X12_anyOf hst h0 (by omega) (fn_X12_anyOfR n) (fun v1 v2 v3 D  => s_X12_anyOfR hst h0 n d (by omega) v1 v2 v3 D ) 
def fn_X12_anyOfT (v1 : Int32) (v2 : Int32) (v3 : Int32) (D : zD) : Option zD := fn_X12_anyOfR 100 v1 v2 v3 D
theorem s_X12_anyOfT {X : zX} {Sh : zSh} {d : Nat} (hst : (zl X).stackTraces = false) (h0 : zSh0 Sh) (hd : 101 ≤ d) {v1 : Int32} {v2 : Int32} {v3 : Int32}  {D : zD} : Sd X m_X12_anyOf d [.ref 102, .int v1, .int v2, .int v3] (Sh, D) ((oV Sh) (fn_X12_anyOfT v1 v2 v3 D)) := s_X12_anyOfR hst h0 100 d (by omega) v1 v2 v3 D 
/-! CoveredSignsModel.block -/
theorem d_X12_block_0 : decode (yB m_X12_block) 0 = .ok (.iconst 0, 1) := by decide +kernel
theorem d_X12_block_1 : decode (yB m_X12_block) 1 = .ok (.istore 5, 2) := by decide +kernel
theorem d_X12_block_3 : decode (yB m_X12_block) 3 = .ok (.iload_n 1, 1) := by decide +kernel
theorem d_X12_block_4 : decode (yB m_X12_block) 4 = .ok (.istore 6, 2) := by decide +kernel
theorem d_X12_block_6 : decode (yB m_X12_block) 6 = .ok (.iload 6, 2) := by decide +kernel
theorem d_X12_block_8 : decode (yB m_X12_block) 8 = .ok (.iload_n 1, 1) := by decide +kernel
theorem d_X12_block_9 : decode (yB m_X12_block) 9 = .ok (.iload_n 3, 1) := by decide +kernel
theorem d_X12_block_10 : decode (yB m_X12_block) 10 = .ok (.iadd, 1) := by decide +kernel
theorem d_X12_block_11 : decode (yB m_X12_block) 11 = .ok (.if_icmp .ge 44, 3) := by decide +kernel
theorem d_X12_block_14 : decode (yB m_X12_block) 14 = .ok (.iload_n 2, 1) := by decide +kernel
theorem d_X12_block_15 : decode (yB m_X12_block) 15 = .ok (.istore 7, 2) := by decide +kernel
theorem d_X12_block_17 : decode (yB m_X12_block) 17 = .ok (.iload 7, 2) := by decide +kernel
theorem d_X12_block_19 : decode (yB m_X12_block) 19 = .ok (.iload_n 2, 1) := by decide +kernel
theorem d_X12_block_20 : decode (yB m_X12_block) 20 = .ok (.iload 4, 2) := by decide +kernel
theorem d_X12_block_22 : decode (yB m_X12_block) 22 = .ok (.iadd, 1) := by decide +kernel
theorem d_X12_block_23 : decode (yB m_X12_block) 23 = .ok (.if_icmp .ge 26, 3) := by decide +kernel
theorem d_X12_block_26 : decode (yB m_X12_block) 26 = .ok (.iload 5, 2) := by decide +kernel
theorem d_X12_block_28 : decode (yB m_X12_block) 28 = .ok (.iconst 1, 1) := by decide +kernel
theorem d_X12_block_29 : decode (yB m_X12_block) 29 = .ok (.aload_n 0, 1) := by decide +kernel
theorem d_X12_block_30 : decode (yB m_X12_block) 30 = .ok (.getfield 17, 3) := by decide +kernel
theorem d_X12_block_33 : decode (yB m_X12_block) 33 = .ok (.iload 7, 2) := by decide +kernel
theorem d_X12_block_35 : decode (yB m_X12_block) 35 = .ok (.imul, 1) := by decide +kernel
theorem d_X12_block_36 : decode (yB m_X12_block) 36 = .ok (.iload 6, 2) := by decide +kernel
theorem d_X12_block_38 : decode (yB m_X12_block) 38 = .ok (.iadd, 1) := by decide +kernel
theorem d_X12_block_39 : decode (yB m_X12_block) 39 = .ok (.ishl, 1) := by decide +kernel
theorem d_X12_block_40 : decode (yB m_X12_block) 40 = .ok (.ior, 1) := by decide +kernel
theorem d_X12_block_41 : decode (yB m_X12_block) 41 = .ok (.istore 5, 2) := by decide +kernel
theorem d_X12_block_43 : decode (yB m_X12_block) 43 = .ok (.iinc 7 1, 3) := by decide +kernel
theorem d_X12_block_46 : decode (yB m_X12_block) 46 = .ok (.goto (-29), 3) := by decide +kernel
theorem d_X12_block_49 : decode (yB m_X12_block) 49 = .ok (.iinc 6 1, 3) := by decide +kernel
theorem d_X12_block_52 : decode (yB m_X12_block) 52 = .ok (.goto (-46), 3) := by decide +kernel
theorem d_X12_block_55 : decode (yB m_X12_block) 55 = .ok (.iload 5, 2) := by decide +kernel
theorem d_X12_block_57 : decode (yB m_X12_block) 57 = .ok (.ireturn, 1) := by decide +kernel
def fn_X12_block_17 (v1 : Int32) (v2 : Int32) (v3 : Int32) (v4 : Int32) (D : zD) (k6 : Int32 → Int32 → Option Int32) : Nat → Int32 → Int32 → Int32 → Option Int32
  | 0, _, _, _ => none
  | n + 1, v5, v6, v7 => (if (v2 + v4) ≤ v7 then ((k6 v5 (v6 + (1 : Int32)))) else (zlet (v5 ||| ((1 : Int32) <<< ((((gI D 102 14) * v7) + v6) &&& 31))) fun x3 => ((fn_X12_block_17 v1 v2 v3 v4 D k6 n) x3 v6 (v7 + (1 : Int32)))))
def fn_X12_block_6 (v1 : Int32) (v2 : Int32) (v3 : Int32) (v4 : Int32) (D : zD) : Nat → Int32 → Int32 → Option Int32
  | 0, _, _ => none
  | n + 1, v5, v6 => (if (v1 + v3) ≤ v6 then ((some v5)) else ((fn_X12_block_17 v1 v2 v3 v4 D (fn_X12_block_6 v1 v2 v3 v4 D n) zFU v5 v6 v2)))
def fn_X12_block (v1 : Int32) (v2 : Int32) (v3 : Int32) (v4 : Int32) (D : zD) : Option Int32 := (fn_X12_block_6 v1 v2 v3 v4 D zFU (0 : Int32) v1)
theorem s_X12_block_17 {X : zX} {Sh : zSh} {d : Nat} (hst : (zl X).stackTraces = false) (h0 : zSh0 Sh) (hd : 0 ≤ d) {v1 : Int32} {v2 : Int32} {v3 : Int32} {v4 : Int32} (D : zD) (k6 : Int32 → Int32 → Option Int32) (hk6 : ∀ (v5 : Int32) (v6 : Int32) , Rn X m_X12_block (d + 1) 6 [(0, .ref 102), (1, .int v1), (2, .int v2), (3, .int v3), (4, .int v4), (5, .int v5), (6, .int v6)] [] (Sh, D) ((oP Sh D) (k6 v5 v6))) : ∀ (n : Nat) (v5 : Int32) (v6 : Int32) (v7 : Int32) , Rn X m_X12_block (d + 1) 17 [(0, .ref 102), (1, .int v1), (2, .int v2), (3, .int v3), (4, .int v4), (5, .int v5), (6, .int v6), (7, .int v7)] [] (Sh, D) ((oP Sh D) (fn_X12_block_17 v1 v2 v3 v4 D k6 n v5 v6 v7)) := by
  intro n
  induction n with
  | zero => intro v5 v6 v7; exact Rn_none rfl
  | succ n hk17 =>
    intro v5 v6 v7
    rw [fn_X12_block_17]
    refine r_iload (pc := 17) 7 d_X12_block_17 rfl ?_
    refine r_iload_n (pc := 19) 2 d_X12_block_19 rfl rfl ?_
    refine r_iload (pc := 20) 4 d_X12_block_20 rfl ?_
    refine r_iadd (pc := 22) d_X12_block_22 ?_
    refine r_icmp_ge (f := (oP Sh D)) (pc := 23) 49 d_X12_block_23 (by decide) (fun c2 => ?_) (fun c2 => ?_)
    · refine r_iinc (pc := 49) ((v6 + (1 : Int32))) 6 (ls' := [(6, .int (v6 + (1 : Int32))), (0, .ref 102), (1, .int v1), (2, .int v2), (3, .int v3), (4, .int v4), (5, .int v5), (7, .int v7)]) d_X12_block_49 rfl rfl (Nat.le_of_ble_eq_true rfl) rfl ?_
      refine r_goto (pc := 52) 6 d_X12_block_52 (by decide) ?_
      refine r_pick [1, 2, 3, 4, 5, 6, 0] (ls' := [(0, .ref 102), (1, .int v1), (2, .int v2), (3, .int v3), (4, .int v4), (5, .int v5), (6, .int (v6 + (1 : Int32)))]) rfl ?_
      exact hk6 v5 (v6 + (1 : Int32)) 
    · refine r_iload (pc := 26) 5 d_X12_block_26 rfl ?_
      refine r_iconst (pc := 28) (1 : Int32) d_X12_block_28 rfl ?_
      refine r_aload_n (pc := 29) 0 d_X12_block_29 rfl rfl ?_
      refine q_gI (pc := 30) g_X12_17 (K_102 h0) rfl d_X12_block_30 ?_
      refine r_iload (pc := 33) 7 d_X12_block_33 rfl ?_
      refine r_imul (pc := 35) d_X12_block_35 ?_
      refine r_iload (pc := 36) 6 d_X12_block_36 rfl ?_
      refine r_iadd (pc := 38) d_X12_block_38 ?_
      refine r_ishl (pc := 39) d_X12_block_39 ?_
      refine r_ior (pc := 40) d_X12_block_40 ?_
      refine r_leti (f := (oP Sh D)) (fun x3 => ?_)
      refine r_istore (pc := 41) (ls' := [(5, .int x3), (0, .ref 102), (1, .int v1), (2, .int v2), (3, .int v3), (4, .int v4), (6, .int v6), (7, .int v7)]) d_X12_block_41 (Nat.le_of_ble_eq_true rfl) rfl ?_
      refine r_iinc (pc := 43) ((v7 + (1 : Int32))) 7 (ls' := [(7, .int (v7 + (1 : Int32))), (5, .int x3), (0, .ref 102), (1, .int v1), (2, .int v2), (3, .int v3), (4, .int v4), (6, .int v6)]) d_X12_block_43 rfl rfl (Nat.le_of_ble_eq_true rfl) rfl ?_
      refine r_goto (pc := 46) 17 d_X12_block_46 (by decide) ?_
      refine r_pick [2, 3, 4, 5, 6, 1, 7, 0] (ls' := [(0, .ref 102), (1, .int v1), (2, .int v2), (3, .int v3), (4, .int v4), (5, .int x3), (6, .int v6), (7, .int (v7 + (1 : Int32)))]) rfl ?_
      exact hk17 x3 v6 (v7 + (1 : Int32)) 
theorem s_X12_block_6 {X : zX} {Sh : zSh} {d : Nat} (hst : (zl X).stackTraces = false) (h0 : zSh0 Sh) (hd : 0 ≤ d) {v1 : Int32} {v2 : Int32} {v3 : Int32} {v4 : Int32} (D : zD) : ∀ (n : Nat) (v5 : Int32) (v6 : Int32) , Rn X m_X12_block (d + 1) 6 [(0, .ref 102), (1, .int v1), (2, .int v2), (3, .int v3), (4, .int v4), (5, .int v5), (6, .int v6)] [] (Sh, D) ((oP Sh D) (fn_X12_block_6 v1 v2 v3 v4 D n v5 v6)) := by
  intro n
  induction n with
  | zero => intro v5 v6; exact Rn_none rfl
  | succ n hk6 =>
    intro v5 v6
    rw [fn_X12_block_6]
    refine r_iload (pc := 6) 6 d_X12_block_6 rfl ?_
    refine r_iload_n (pc := 8) 1 d_X12_block_8 rfl rfl ?_
    refine r_iload_n (pc := 9) 3 d_X12_block_9 rfl rfl ?_
    refine r_iadd (pc := 10) d_X12_block_10 ?_
    refine r_icmp_ge (f := (oP Sh D)) (pc := 11) 55 d_X12_block_11 (by decide) (fun c1 => ?_) (fun c1 => ?_)
    · refine r_iload (pc := 55) 5 d_X12_block_55 rfl ?_
      exact r_iret (pc := 57) rfl d_X12_block_57
    · refine r_iload_n (pc := 14) 2 d_X12_block_14 rfl rfl ?_
      refine r_istore (pc := 15) (ls' := [(7, .int v2), (0, .ref 102), (1, .int v1), (2, .int v2), (3, .int v3), (4, .int v4), (5, .int v5), (6, .int v6)]) d_X12_block_15 (Nat.le_of_ble_eq_true rfl) rfl ?_
      refine r_pick [1, 2, 3, 4, 5, 6, 7, 0] (ls' := [(0, .ref 102), (1, .int v1), (2, .int v2), (3, .int v3), (4, .int v4), (5, .int v5), (6, .int v6), (7, .int v2)]) rfl ?_
      exact s_X12_block_17 hst h0 hd D (fn_X12_block_6 v1 v2 v3 v4 D n) hk6 zFU  v5 v6 v2
theorem s_X12_block {X : zX} {Sh : zSh} {d : Nat} (hst : (zl X).stackTraces = false) (h0 : zSh0 Sh) (hd : 1 ≤ d) {v1 : Int32} {v2 : Int32} {v3 : Int32} {v4 : Int32} {D : zD} : Sd X m_X12_block d [.ref 102, .int v1, .int v2, .int v3, .int v4] (Sh, D) ((oP Sh D) (fn_X12_block v1 v2 v3 v4 D)) := by
  obtain ⟨d, rfl⟩ : ∃ e, d = e + 1 := ⟨d - 1, by omega⟩
  replace hd : 0 ≤ d := by omega
  refine z_body ck_X12_block rfl (Nat.le_of_ble_eq_true rfl) rfl hst ?_
  rw [fn_X12_block]
  show Rn X m_X12_block (d + 1) 0 [(0, .ref 102), (1, .int v1), (2, .int v2), (3, .int v3), (4, .int v4)] [] (Sh, D) _
  refine r_iconst (pc := 0) (0 : Int32) d_X12_block_0 rfl ?_
  refine r_istore (pc := 1) (ls' := [(5, .int (0 : Int32)), (0, .ref 102), (1, .int v1), (2, .int v2), (3, .int v3), (4, .int v4)]) d_X12_block_1 (Nat.le_of_ble_eq_true rfl) rfl ?_
  refine r_iload_n (pc := 3) 2 d_X12_block_3 rfl rfl ?_
  refine r_istore (pc := 4) (ls' := [(6, .int v1), (5, .int (0 : Int32)), (0, .ref 102), (1, .int v1), (2, .int v2), (3, .int v3), (4, .int v4)]) d_X12_block_4 (Nat.le_of_ble_eq_true rfl) rfl ?_
  refine r_pick [2, 3, 4, 5, 6, 1, 0] (ls' := [(0, .ref 102), (1, .int v1), (2, .int v2), (3, .int v3), (4, .int v4), (5, .int (0 : Int32)), (6, .int v1)]) rfl ?_
  exact s_X12_block_6 hst h0 hd D zFU  (0 : Int32) v1
