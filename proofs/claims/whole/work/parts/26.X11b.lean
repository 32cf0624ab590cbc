/-! CoveredSigns.count -/
theorem d_X11_count_0 : decode (yB m_X11_count) 0 = .ok (.iload_n 1, 1) := by decide +kernel
theorem d_X11_count_1 : decode (yB m_X11_count) 1 = .ok (.tableswitch 57 0 3 #[31, 39, 47, 52], 31) := by decide +kernel
theorem d_X11_count_32 : decode (yB m_X11_count) 32 = .ok (.aload_n 0, 1) := by decide +kernel
theorem d_X11_count_33 : decode (yB m_X11_count) 33 = .ok (.getfield 55, 3) := by decide +kernel
theorem d_X11_count_36 : decode (yB m_X11_count) 36 = .ok (.getfield 183, 3) := by decide +kernel
theorem d_X11_count_39 : decode (yB m_X11_count) 39 = .ok (.ireturn, 1) := by decide +kernel
theorem d_X11_count_40 : decode (yB m_X11_count) 40 = .ok (.aload_n 0, 1) := by decide +kernel
theorem d_X11_count_41 : decode (yB m_X11_count) 41 = .ok (.getfield 55, 3) := by decide +kernel
theorem d_X11_count_44 : decode (yB m_X11_count) 44 = .ok (.getfield 349, 3) := by decide +kernel
theorem d_X11_count_47 : decode (yB m_X11_count) 47 = .ok (.ireturn, 1) := by decide +kernel
theorem d_X11_count_48 : decode (yB m_X11_count) 48 = .ok (.aload_n 0, 1) := by decide +kernel
theorem d_X11_count_49 : decode (yB m_X11_count) 49 = .ok (.getfield 154, 3) := by decide +kernel
theorem d_X11_count_52 : decode (yB m_X11_count) 52 = .ok (.ireturn, 1) := by decide +kernel
theorem d_X11_count_53 : decode (yB m_X11_count) 53 = .ok (.aload_n 0, 1) := by decide +kernel
theorem d_X11_count_54 : decode (yB m_X11_count) 54 = .ok (.getfield 122, 3) := by decide +kernel
theorem d_X11_count_57 : decode (yB m_X11_count) 57 = .ok (.ireturn, 1) := by decide +kernel
theorem d_X11_count_58 : decode (yB m_X11_count) 58 = .ok (.iconst (-1), 1) := by decide +kernel
theorem d_X11_count_59 : decode (yB m_X11_count) 59 = .ok (.ireturn, 1) := by decide +kernel
def fn_X11_count (v1 : Int32) (D : zD) : Option Int32 := (if v1 = 0 then ((some (gI D 57 1))) else if v1 = 1 then ((some (gI D 57 2))) else if v1 = 2 then ((some (gI D 0 18))) else if v1 = 3 then ((some (gI D 0 17))) else ((some (-1 : Int32))))
theorem s_X11_count {X : zX} {Sh : zSh} {d : Nat} (hst : (zl X).stackTraces = false) (h0 : zSh0 Sh) (hd : 1 ≤ d) {v1 : Int32} {D : zD} : Sd X m_X11_count d [.ref 0, .int v1] (Sh, D) ((oP Sh D) (fn_X11_count v1 D)) := by
  obtain ⟨d, rfl⟩ : ∃ e, d = e + 1 := ⟨d - 1, by omega⟩
  replace hd : 0 ≤ d := by omega
  refine z_body ck_X11_count rfl (Nat.le_of_ble_eq_true rfl) rfl hst ?_
  rw [fn_X11_count]
  show Rn X m_X11_count (d + 1) 0 [(0, .ref 0), (1, .int v1)] [] (Sh, D) _
  refine r_iload_n (pc := 0) 1 d_X11_count_0 rfl rfl ?_
  refine r_tsw (pc := 1) d_X11_count_1 rfl (fun i off tgt ho hx ht => ?_) (by decide) (fun hx tgt ht => ?_) (by decide)
  · match i, ho with
    | 0, ho =>
      obtain rfl : (31 : Int) = off := Option.some.inj ho
      obtain rfl : 32 = tgt := Int.ofNat.inj ht
      obtain rfl : v1 = (0 : Int32) := z_ieq hx
      show Rn _ _ _ _ _ _ _ ((oP Sh D) ((some (gI D 57 1))))
      refine r_aload_n (pc := 32) 0 d_X11_count_32 rfl rfl ?_
      refine r_getR (pc := 33) g_X11_55 (K_0 h0) rfl (R_0_6 h0) d_X11_count_33 ?_
      refine q_gIn (pc := 36) g_X11_183 (K_57 h0) rfl d_X11_count_36 ?_
      exact r_iret (pc := 39) rfl d_X11_count_39
    | 1, ho =>
      obtain rfl : (39 : Int) = off := Option.some.inj ho
      obtain rfl : 40 = tgt := Int.ofNat.inj ht
      obtain rfl : v1 = (1 : Int32) := z_ieq hx
      show Rn _ _ _ _ _ _ _ ((oP Sh D) ((some (gI D 57 2))))
      refine r_aload_n (pc := 40) 0 d_X11_count_40 rfl rfl ?_
      refine r_getR (pc := 41) g_X11_55 (K_0 h0) rfl (R_0_6 h0) d_X11_count_41 ?_
      refine q_gIn (pc := 44) g_X11_349 (K_57 h0) rfl d_X11_count_44 ?_
      exact r_iret (pc := 47) rfl d_X11_count_47
    | 2, ho =>
      obtain rfl : (47 : Int) = off := Option.some.inj ho
      obtain rfl : 48 = tgt := Int.ofNat.inj ht
      obtain rfl : v1 = (2 : Int32) := z_ieq hx
      show Rn _ _ _ _ _ _ _ ((oP Sh D) ((some (gI D 0 18))))
      refine r_aload_n (pc := 48) 0 d_X11_count_48 rfl rfl ?_
      refine q_gI (pc := 49) g_X11_154 (K_0 h0) rfl d_X11_count_49 ?_
      exact r_iret (pc := 52) rfl d_X11_count_52
    | 3, ho =>
      obtain rfl : (52 : Int) = off := Option.some.inj ho
      obtain rfl : 53 = tgt := Int.ofNat.inj ht
      obtain rfl : v1 = (3 : Int32) := z_ieq hx
      show Rn _ _ _ _ _ _ _ ((oP Sh D) ((some (gI D 0 17))))
      refine r_aload_n (pc := 53) 0 d_X11_count_53 rfl rfl ?_
      refine q_gI (pc := 54) g_X11_122 (K_0 h0) rfl d_X11_count_54 ?_
      exact r_iret (pc := 57) rfl d_X11_count_57
    | i + 4, ho => exact absurd ho (by simp)
  · obtain rfl : 58 = tgt := Int.ofNat.inj ht
    rw [if_neg (show ¬ v1 = 0 from z_ine hx 0 (by decide) (by decide))]
    rw [if_neg (show ¬ v1 = 1 from z_ine hx 1 (by decide) (by decide))]
    rw [if_neg (show ¬ v1 = 2 from z_ine hx 2 (by decide) (by decide))]
    rw [if_neg (show ¬ v1 = 3 from z_ine hx 3 (by decide) (by decide))]
    refine r_iconst (pc := 58) (-1 : Int32) d_X11_count_58 rfl ?_
    exact r_iret (pc := 59) rfl d_X11_count_59

