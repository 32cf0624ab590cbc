/-! the JDK's own: texts, copies, greater and less -/
theorem d_JS_length_0 : decode (yB m_JS_length) 0 = .ok (.aload_n 0, 1) := by decide +kernel
theorem d_JS_length_1 : decode (yB m_JS_length) 1 = .ok (.getfield 9, 3) := by decide +kernel
theorem d_JS_length_4 : decode (yB m_JS_length) 4 = .ok (.arraylength, 1) := by decide +kernel
theorem d_JS_length_5 : decode (yB m_JS_length) 5 = .ok (.aload_n 0, 1) := by decide +kernel
theorem d_JS_length_6 : decode (yB m_JS_length) 6 = .ok (.invokevirtual 335, 3) := by decide +kernel
theorem d_JS_length_9 : decode (yB m_JS_length) 9 = .ok (.ishr, 1) := by decide +kernel
theorem d_JS_length_10 : decode (yB m_JS_length) 10 = .ok (.ireturn, 1) := by decide +kernel
theorem d_JS_charAt_0 : decode (yB m_JS_charAt) 0 = .ok (.aload_n 0, 1) := by decide +kernel
theorem d_JS_charAt_1 : decode (yB m_JS_charAt) 1 = .ok (.invokevirtual 492, 3) := by decide +kernel
theorem d_JS_charAt_4 : decode (yB m_JS_charAt) 4 = .ok (.ifCond .eq 12, 3) := by decide +kernel
theorem d_JS_charAt_7 : decode (yB m_JS_charAt) 7 = .ok (.aload_n 0, 1) := by decide +kernel
theorem d_JS_charAt_8 : decode (yB m_JS_charAt) 8 = .ok (.getfield 9, 3) := by decide +kernel
theorem d_JS_charAt_11 : decode (yB m_JS_charAt) 11 = .ok (.iload_n 1, 1) := by decide +kernel
theorem d_JS_charAt_12 : decode (yB m_JS_charAt) 12 = .ok (.invokestatic 495, 3) := by decide +kernel
theorem d_JS_charAt_15 : decode (yB m_JS_charAt) 15 = .ok (.ireturn, 1) := by decide +kernel
theorem d_JS_charAt_16 : decode (yB m_JS_charAt) 16 = .ok (.aload_n 0, 1) := by decide +kernel
theorem d_JS_charAt_17 : decode (yB m_JS_charAt) 17 = .ok (.getfield 9, 3) := by decide +kernel
theorem d_JS_charAt_20 : decode (yB m_JS_charAt) 20 = .ok (.iload_n 1, 1) := by decide +kernel
theorem d_JS_charAt_21 : decode (yB m_JS_charAt) 21 = .ok (.invokestatic 498, 3) := by decide +kernel
theorem d_JS_charAt_24 : decode (yB m_JS_charAt) 24 = .ok (.ireturn, 1) := by decide +kernel
theorem d_JS_coder_0 : decode (yB m_JS_coder) 0 = .ok (.getstatic 38, 3) := by decide +kernel
theorem d_JS_coder_3 : decode (yB m_JS_coder) 3 = .ok (.ifCond .eq 10, 3) := by decide +kernel
theorem d_JS_coder_6 : decode (yB m_JS_coder) 6 = .ok (.aload_n 0, 1) := by decide +kernel
theorem d_JS_coder_7 : decode (yB m_JS_coder) 7 = .ok (.getfield 15, 3) := by decide +kernel
theorem d_JS_coder_10 : decode (yB m_JS_coder) 10 = .ok (.goto 4, 3) := by decide +kernel
theorem d_JS_coder_13 : decode (yB m_JS_coder) 13 = .ok (.iconst 1, 1) := by decide +kernel
theorem d_JS_coder_14 : decode (yB m_JS_coder) 14 = .ok (.ireturn, 1) := by decide +kernel
theorem d_JS_isLatin1_0 : decode (yB m_JS_isLatin1) 0 = .ok (.getstatic 38, 3) := by decide +kernel
theorem d_JS_isLatin1_3 : decode (yB m_JS_isLatin1) 3 = .ok (.ifCond .eq 14, 3) := by decide +kernel
theorem d_JS_isLatin1_6 : decode (yB m_JS_isLatin1) 6 = .ok (.aload_n 0, 1) := by decide +kernel
theorem d_JS_isLatin1_7 : decode (yB m_JS_isLatin1) 7 = .ok (.getfield 15, 3) := by decide +kernel
theorem d_JS_isLatin1_10 : decode (yB m_JS_isLatin1) 10 = .ok (.ifCond .ne 7, 3) := by decide +kernel
theorem d_JS_isLatin1_13 : decode (yB m_JS_isLatin1) 13 = .ok (.iconst 1, 1) := by decide +kernel
theorem d_JS_isLatin1_14 : decode (yB m_JS_isLatin1) 14 = .ok (.goto 4, 3) := by decide +kernel
theorem d_JS_isLatin1_17 : decode (yB m_JS_isLatin1) 17 = .ok (.iconst 0, 1) := by decide +kernel
theorem d_JS_isLatin1_18 : decode (yB m_JS_isLatin1) 18 = .ok (.ireturn, 1) := by decide +kernel
theorem d_JS_checkIndex_0 : decode (yB m_JS_checkIndex) 0 = .ok (.iload_n 0, 1) := by decide +kernel
theorem d_JS_checkIndex_1 : decode (yB m_JS_checkIndex) 1 = .ok (.iload_n 1, 1) := by decide +kernel
theorem d_JS_checkIndex_2 : decode (yB m_JS_checkIndex) 2 = .ok (.getstatic 1053, 3) := by decide +kernel
theorem d_JS_checkIndex_5 : decode (yB m_JS_checkIndex) 5 = .ok (.invokestatic 1059, 3) := by decide +kernel
theorem d_JS_checkIndex_8 : decode (yB m_JS_checkIndex) 8 = .ok (.pop, 1) := by decide +kernel
theorem d_JS_checkIndex_9 : decode (yB m_JS_checkIndex) 9 = .ok (.return_, 1) := by decide +kernel
theorem d_JL_charAt_0 : decode (yB m_JL_charAt) 0 = .ok (.iload_n 1, 1) := by decide +kernel
theorem d_JL_charAt_1 : decode (yB m_JL_charAt) 1 = .ok (.aload_n 0, 1) := by decide +kernel
theorem d_JL_charAt_2 : decode (yB m_JL_charAt) 2 = .ok (.arraylength, 1) := by decide +kernel
theorem d_JL_charAt_3 : decode (yB m_JL_charAt) 3 = .ok (.invokestatic 9, 3) := by decide +kernel
theorem d_JL_charAt_6 : decode (yB m_JL_charAt) 6 = .ok (.aload_n 0, 1) := by decide +kernel
theorem d_JL_charAt_7 : decode (yB m_JL_charAt) 7 = .ok (.iload_n 1, 1) := by decide +kernel
theorem d_JL_charAt_8 : decode (yB m_JL_charAt) 8 = .ok (.baload, 1) := by decide +kernel
theorem d_JL_charAt_9 : decode (yB m_JL_charAt) 9 = .ok (.sipush 255, 3) := by decide +kernel
theorem d_JL_charAt_12 : decode (yB m_JL_charAt) 12 = .ok (.iand, 1) := by decide +kernel
theorem d_JL_charAt_13 : decode (yB m_JL_charAt) 13 = .ok (.i2c, 1) := by decide +kernel
theorem d_JL_charAt_14 : decode (yB m_JL_charAt) 14 = .ok (.ireturn, 1) := by decide +kernel
theorem d_JP_checkIndex_0 : decode (yB m_JP_checkIndex) 0 = .ok (.iload_n 0, 1) := by decide +kernel
theorem d_JP_checkIndex_1 : decode (yB m_JP_checkIndex) 1 = .ok (.ifCond .lt 8, 3) := by decide +kernel
theorem d_JP_checkIndex_4 : decode (yB m_JP_checkIndex) 4 = .ok (.iload_n 0, 1) := by decide +kernel
theorem d_JP_checkIndex_5 : decode (yB m_JP_checkIndex) 5 = .ok (.iload_n 1, 1) := by decide +kernel
theorem d_JP_checkIndex_6 : decode (yB m_JP_checkIndex) 6 = .ok (.if_icmp .lt 10, 3) := by decide +kernel
theorem d_JP_checkIndex_9 : decode (yB m_JP_checkIndex) 9 = .ok (.aload_n 2, 1) := by decide +kernel
theorem d_JP_checkIndex_10 : decode (yB m_JP_checkIndex) 10 = .ok (.iload_n 0, 1) := by decide +kernel
theorem d_JP_checkIndex_11 : decode (yB m_JP_checkIndex) 11 = .ok (.iload_n 1, 1) := by decide +kernel
theorem d_JP_checkIndex_12 : decode (yB m_JP_checkIndex) 12 = .ok (.invokestatic 95, 3) := by decide +kernel
theorem d_JP_checkIndex_15 : decode (yB m_JP_checkIndex) 15 = .ok (.athrow, 1) := by decide +kernel
theorem d_JP_checkIndex_16 : decode (yB m_JP_checkIndex) 16 = .ok (.iload_n 0, 1) := by decide +kernel
theorem d_JP_checkIndex_17 : decode (yB m_JP_checkIndex) 17 = .ok (.ireturn, 1) := by decide +kernel
section ROWS6
variable {X : zX} {Y Y2 : zY} {d pc : Nat} {ls : List (Nat × Value)} {st av : List Value} {M : zM} {r r1 : Option (zOut × zM)} {Sh : zSh} {D : zD}
theorem zEv.S {mc ms : Nat} {p : Program} {Rm : Room} {s : State} {m : MethodId} {args : Array Value} {meth : Method} {c : Code} {M' : zM} {H : Heap} {locs : List Loc} {cells slots : Nat} {la : Array Slot} (E : zEv X Y d mc ms p Rm s m args meth c) (S : zSt X Y s M M' ls H locs cells slots mc ms la) : va_S (zF X) s.heap H locs :=
  ⟨S.2.1, fun q _ h2 => by
    have h3 : q < zb X := Nat.not_le.mp h2
    rw [S.1.2.2.2.1 q h3, E.2.2.2.2.2.2.2.2.2.2.2.2.2.2.2.2 q h3], S.2.2.1⟩
theorem zEv.mv {mc ms : Nat} {p : Program} {Rm : Room} {s : State} {m : MethodId} {args : Array Value} {meth : Method} {c : Code} (E : zEv X Y d mc ms p Rm s m args meth c) : ∀ a : Nat, a < (zH X).size → ¬ zF X a → s.heap[a]? = (zH X)[a]? := fun a _ h => E.2.2.2.2.2.2.2.2.2.2.2.2.2.2.2.2 a (Nat.not_le.mp h)
theorem zSt.room {s : State} {M' : zM} {H : Heap} {locs : List Loc} {cells slots mc ms : Nat} {la : Array Slot} (S : zSt X Y s M M' ls H locs cells slots mc ms la) : cells ≤ mc ∧ slots ≤ ms := by
  have b1 := S.2.2.2.2.1
  have b2 := S.2.2.2.2.2.1
  have b3 := S.2.2.2.2.2.2.1
  have b4 := S.2.2.2.2.2.2.2
  exact ⟨by omega, by omega⟩
/-- the greater, the lesser -/
def zmx (x y : Int32) : Int32 := if x < y then y else x
def zmn (x y : Int32) : Int32 := if y < x then y else x
theorem r_mmax {idx : Nat} {x y : Int32} (w : Cond.methodLink (yO Y) idx Lib.Math.max.name ∈ z_T) (hd : 1 ≤ d) (hst : (st.map fun v => v.category).sum ≤ 8) (dg : decode (yB Y) pc = .ok (.invokestatic idx, 3)) (kk : Rn X Y d (pc + 3) ls (.int (zmx x y) :: st) M r) : Rn X Y d pc ls (.int y :: .int x :: st) M r := by
  intro o M' hr p e Rm s m args below meth c mc ms E H locs cells slots la S
  have hts := E.2.2.2.2.2.1
  have f1 := E.2.2.2.2.2.2.2.2.2.2.1
  have f2 := E.2.2.2.2.2.2.2.2.2.2.2.1
  have f3 := E.2.2.2.2.2.2.2.2.2.2.2.2.1
  have f4 := E.2.2.2.2.2.2.2.2.2.2.2.2.2.1
  obtain ⟨b1, b2⟩ := S.room
  exact va_mmax E.1 E.2.1 (by rw [E.2.2.2.1]; exact S.2.2.2.1.1.symm) E.2.2.2.2.1 (hts _ w) (hts _ ms_max) (hts _ ms_i) (hts _ mc_max) (by omega) (by rw [z_cat]; omega) (by omega) (by omega) dg (kk o M' hr p e Rm s m args below meth c mc ms E H locs cells slots la S)
theorem r_mmin {idx : Nat} {x y : Int32} (w : Cond.methodLink (yO Y) idx Lib.Math.min.name ∈ z_T) (hd : 1 ≤ d) (hst : (st.map fun v => v.category).sum ≤ 8) (dg : decode (yB Y) pc = .ok (.invokestatic idx, 3)) (kk : Rn X Y d (pc + 3) ls (.int (zmn x y) :: st) M r) : Rn X Y d pc ls (.int y :: .int x :: st) M r := by
  intro o M' hr p e Rm s m args below meth c mc ms E H locs cells slots la S
  have hts := E.2.2.2.2.2.1
  have f1 := E.2.2.2.2.2.2.2.2.2.2.1
  have f2 := E.2.2.2.2.2.2.2.2.2.2.2.1
  have f3 := E.2.2.2.2.2.2.2.2.2.2.2.2.1
  have f4 := E.2.2.2.2.2.2.2.2.2.2.2.2.2.1
  obtain ⟨b1, b2⟩ := S.room
  exact va_mmin E.1 E.2.1 (by rw [E.2.2.2.1]; exact S.2.2.2.1.1.symm) E.2.2.2.2.1 (hts _ w) (hts _ ms_min) (hts _ ms_i) (hts _ mc_min) (by omega) (by rw [z_cat]; omega) (by omega) (by omega) dg (kk o M' hr p e Rm s m args below meth c mc ms E H locs cells slots la S)
/-- the whole world as a list -/
def zws (X : zX) (M : zM) : va_W := (List.range M.1.1.length).map (fun k => (zad X k, zeO X M k (M.1.1.getD k (0, 0))))
theorem zws_at {k : Nat} {kd : Nat × Nat} (hk : M.1.1[k]? = some kd) : (zws X M)[k]? = some (zad X k, zeO X M k kd) := by
  have hl := (List.getElem?_eq_some_iff.mp hk).1
  rw [zws, List.getElem?_map, List.getElem?_range hl]
  simp [List.getD_eq_getElem?_getD, hk]
theorem zws_of {k : Nat} {q : Nat × va_E} (h : (zws X M)[k]? = some q) : ∃ kd, M.1.1[k]? = some kd ∧ q = (zad X k, zeO X M k kd) := by
  have hl : k < M.1.1.length := by
    have := (List.getElem?_eq_some_iff.mp h).1
    simpa [zws] using this
  refine ⟨M.1.1[k], List.getElem?_eq_getElem hl, ?_⟩
  have := zws_at (X := X) (List.getElem?_eq_getElem hl)
  rw [h] at this
  exact Option.some.inj this
theorem zHR.P {H : Heap} (h : zHR X M H) : va_P (zG X) z_cl (zws X M) H := by
  intro k q hq
  obtain ⟨kd, hk, rfl⟩ := zws_of hq
  exact h.2.2.2.2 k kd hk
theorem zHR.W {H : Heap} (h : zHR X M H) : va_D (zF X) (zws X M) := by
  refine ⟨fun i j p q hi hj e => ?_, fun k q hq => ?_⟩
  · obtain ⟨k1, h1, rfl⟩ := zws_of hi
    obtain ⟨k2, h2, rfl⟩ := zws_of hj
    have e' : zad X i = zad X j := e
    rw [zad_small (h.lt h1), zad_small (h.lt h2)] at e'
    omega
  · obtain ⟨kd, hk, rfl⟩ := zws_of hq
    exact zad_F (h.lt hk)
/-- System.arraycopy between int rows -/
def sC (D : zD) (k0 k1 sp dp n : Nat) : zD := (D.1, fun a b => if a = k1 then va_cpy (D.2 k0) (D.2 k1) sp dp n b else D.2 a b)
theorem r_acopy {idx k0 k1 n0 n1 : Nat} {sp dp n : Int32} (w : Cond.methodLink (yO Y) idx arraycopyName ∈ z_T) (hk0 : Sh.1[k0]? = some (0, n0)) (hk1 : Sh.1[k1]? = some (0, n1)) (hx : Sh.2.2 ≠ 0) (h1 : ¬ sp < 0) (h2 : ¬ dp < 0) (h3 : ¬ n < 0) (h4 : sp.toNatClampNeg + n.toNatClampNeg ≤ n0) (h5 : dp.toNatClampNeg + n.toNatClampNeg ≤ n1) (hd : 4 ≤ d) (hst : (st.map fun v => v.category).sum ≤ 8) (dg : decode (yB Y) pc = .ok (.invokestatic idx, 3)) (kk : Rn X Y d (pc + 3) ls st (Sh, sC D k0 k1 sp.toNatClampNeg dp.toNatClampNeg n.toNatClampNeg) r) : Rn X Y d pc ls (.int n :: .int dp :: .ref k1 :: .int sp :: .ref k0 :: st) (Sh, D) r := by
  intro o M' hr p e Rm s m args below meth c mc ms E H locs cells slots la S
  have hts := E.2.2.2.2.2.1
  have f1 := E.2.2.2.2.2.2.2.2.2.2.1
  have f2 := E.2.2.2.2.2.2.2.2.2.2.2.1
  have hS0 : va_S (zF X) H H locs := ⟨Nat.le_refl _, fun _ _ _ => rfl, S.2.2.1⟩
  have hnw : nativeFrameWords "java/lang/System" "arraycopy" 5 + 11 ≤ 100 := by decide +kernel
  refine va_copyi (H0 := H) (A := zF X) E.1 E.2.1 (by rw [E.2.2.2.1]; exact S.2.2.2.1.1.symm) E.2.2.2.2.1 (hts _ w) (hts _ ay_n) (hts _ ay_s) (hts _ ay_i) E.2.2.2.2.2.2.2.2.1.1 S.1.P S.1.W hS0 k0 k1 0 0 (zws_at (X := X) (M := (Sh, D)) hk0) (zws_at (X := X) (M := (Sh, D)) hk1) rfl rfl rfl h1 h2 h3 h4 h5 (fun i hi => rfl) (by omega) (by rw [z_cat]; omega) dg fun H1 locs1 hP hD hS => ?_
  refine kk o M' hr p e Rm s m args below meth c mc ms E H1 locs1 cells slots la ⟨⟨Nat.le_trans S.1.1 hS.1, fun h0 => absurd h0 hx, S.1.2.2.1, fun q hq => ?_, fun k kd hk => ?_⟩, Nat.le_trans S.2.1 hS.1, hS.2.2, S.2.2.2⟩
  · rw [hS.2.1 q (by have := S.1.1; omega) (Nat.not_le.mpr hq)]
    exact S.1.2.2.2.1 q hq
  · have hk' : Sh.1[k]? = some kd := hk
    have hl : k1 < (zws X (Sh, D)).length := (List.getElem?_eq_some_iff.mp (zws_at (X := X) (M := (Sh, D)) hk1)).1
    by_cases hkk : k = k1
    · subst hkk
      rw [hk1] at hk'
      cases hk'
      have h := hP k _ (List.getElem?_set_self hl)
      refine (show va_at (zG X) z_cl (zad X k, zeO X (Sh, sC D k0 k sp.toNatClampNeg dp.toNatClampNeg n.toNatClampNeg) k (0, n1)) H1 from ?_)
      have e1 : (sC D k0 k sp.toNatClampNeg dp.toNatClampNeg n.toNatClampNeg).2 k = va_cpy (D.2 k0) (D.2 k) sp.toNatClampNeg dp.toNatClampNeg n.toNatClampNeg := by
        funext b
        simp [sC]
      show H1[zad X k]? = some (vp_cell (zA X 0) (n1, .inl ((sC D k0 k sp.toNatClampNeg dp.toNatClampNeg n.toNatClampNeg).2 k)))
      rw [e1]
      exact h
    · have h := hP k (zad X k, zeO X (Sh, D) k kd) (by rw [List.getElem?_set_ne (Ne.symm hkk)]; exact zws_at (X := X) (M := (Sh, D)) hk')
      rw [zeO_congr (M := (Sh, D)) (M2 := (Sh, sC D k0 k1 sp.toNatClampNeg dp.toNatClampNeg n.toNatClampNeg)) (by funext b; simp [sC, hkk]) rfl rfl]
      exact h
/-! texts -/
theorem z_getSv {i : Nat} (hi : i < z_nS) (hO : yO Y = "java/lang/String") (dg : decode (yB Y) pc = .ok (.getfield 9, 3)) (kk : Rn X Y d (pc + 3) ls (.ref (1001000 + i) :: st) M r) : Rn X Y d pc ls (.ref (1000000 + i) :: st) M r := by
  intro o M' hr p e Rm s m args below meth c mc ms E H locs cells slots la S
  have go := kk o M' hr p e Rm s m args below meth c mc ms E H locs cells slots la S
  have e1 : zad X (1000000 + i) = zo X (1000000 + i) := by rw [zad, if_neg (by omega)]
  have e2 : zad X (1001000 + i) = zo X (1001000 + i) := by rw [zad, if_neg (by omega)]
  rw [show (Value.ref (1001000 + i) :: st).map (zrv X) = .ref (zad X (1001000 + i)) :: st.map (zrv X) from rfl, e2] at go
  rw [show (Value.ref (1000000 + i) :: st).map (zrv X) = .ref (zad X (1000000 + i)) :: st.map (zrv X) from rfl, e1]
  have hv := (E.2.2.2.2.2.2.2.2.1.2.2.2.1.1.1 i hi).2.2.1
  exact vk_getf E.1 E.2.1 (hv.kept E.mv) (E.S S) E.2.2.2.2.1 (by rw [hO]; exact E.2.2.2.2.2.1 _ fs_JS_9) (fun _ h => h) dg go
theorem z_getSc {i : Nat} (hi : i < z_nS) (hO : yO Y = "java/lang/String") (dg : decode (yB Y) pc = .ok (.getfield 15, 3)) (kk : Rn X Y d (pc + 3) ls (.int 0 :: st) M r) : Rn X Y d pc ls (.ref (1000000 + i) :: st) M r := by
  intro o M' hr p e Rm s m args below meth c mc ms E H locs cells slots la S
  have go := kk o M' hr p e Rm s m args below meth c mc ms E H locs cells slots la S
  have e1 : zad X (1000000 + i) = zo X (1000000 + i) := by rw [zad, if_neg (by omega)]
  rw [show (Value.ref (1000000 + i) :: st).map (zrv X) = .ref (zad X (1000000 + i)) :: st.map (zrv X) from rfl, e1]
  have hv := (E.2.2.2.2.2.2.2.2.1.2.2.2.1.1.1 i hi).2.1
  exact vk_getf E.1 E.2.1 (hv.kept E.mv) (E.S S) E.2.2.2.2.1 (by rw [hO]; exact E.2.2.2.2.2.1 _ fs_JS_15) (fun _ h => h) dg go
theorem z_cs (hO : yO Y = "java/lang/String") (dg : decode (yB Y) pc = .ok (.getstatic 38, 3)) (kk : Rn X Y d (pc + 3) ls (.int 1 :: st) M r) : Rn X Y d pc ls st M r := by
  intro o M' hr p e Rm s m args below meth c mc ms E H locs cells slots la S
  have go := kk o M' hr p e Rm s m args below meth c mc ms E H locs cells slots la S
  exact va_gets E.1 E.2.1 (E.2.2.2.2.2.2.2.2.1.2.2.2.1.2.1.kept E.mv) (E.S S) E.2.2.2.2.1 (by rw [hO]; exact E.2.2.2.2.2.1 _ fs_JS_38) (fun _ h => h) dg go
theorem z_sio (hO : yO Y = "java/lang/String") (dg : decode (yB Y) pc = .ok (.getstatic 1053, 3)) (k1 : Rn X Y d (pc + 3) ls (.null :: st) M r) (k2 : Rn X Y d (pc + 3) ls (.ref 1005001 :: st) M r) : Rn X Y d pc ls st M r := by
  intro o M' hr p e Rm s m args below meth c mc ms E H locs cells slots la S
  rcases E.2.2.2.2.2.2.2.2.1.2.2.2.1.2.2.1 with h | h
  · exact va_gets E.1 E.2.1 (h.kept E.mv) (E.S S) E.2.2.2.2.1 (by rw [hO]; exact E.2.2.2.2.2.1 _ fs_JS_1053) (fun _ h => h) dg (k1 o M' hr p e Rm s m args below meth c mc ms E H locs cells slots la S)
  · have go := k2 o M' hr p e Rm s m args below meth c mc ms E H locs cells slots la S
    have e1 : zad X 1005001 = zo X 1005001 := by rw [zad, if_neg (by omega)]
    rw [show (Value.ref 1005001 :: st).map (zrv X) = .ref (zad X 1005001) :: st.map (zrv X) from rfl, e1] at go
    exact va_gets E.1 E.2.1 (h.kept E.mv) (E.S S) E.2.2.2.2.1 (by rw [hO]; exact E.2.2.2.2.2.1 _ fs_JS_1053) (fun _ h => h) dg go
theorem z_tlen {i : Nat} (hi : i < z_nS) (dg : decode (yB Y) pc = .ok (.arraylength, 1)) (kk : Rn X Y d (pc + 1) ls (.int (Int32.ofNat (z_lenS.getD i 0)) :: st) M r) : Rn X Y d pc ls (.ref (1001000 + i) :: st) M r := by
  intro o M' hr p e Rm s m args below meth c mc ms E H locs cells slots la S
  have go := kk o M' hr p e Rm s m args below meth c mc ms E H locs cells slots la S
  have e1 : zad X (1001000 + i) = zo X (1001000 + i) := by rw [zad, if_neg (by omega)]
  rw [show (Value.ref (1001000 + i) :: st).map (zrv X) = .ref (zad X (1001000 + i)) :: st.map (zrv X) from rfl, e1]
  exact va_tlen E.1 E.2.1 ((E.2.2.2.2.2.2.2.2.1.2.2.2.1.1.1 i hi).2.2.2.kept E.mv) (E.S S) rfl dg go
theorem z_tb {i : Nat} {j : Int32} (hi : i < z_nS) (hj : vp_in j (z_lenS.getD i 0)) (dg : decode (yB Y) pc = .ok (.baload, 1)) (kk : Rn X Y d (pc + 1) ls (.int ((z_bytS.getD i []).getD j.toNatClampNeg 0) :: st) M r) : Rn X Y d pc ls (.int j :: .ref (1001000 + i) :: st) M r := by
  intro o M' hr p e Rm s m args below meth c mc ms E H locs cells slots la S
  have go := kk o M' hr p e Rm s m args below meth c mc ms E H locs cells slots la S
  have e1 : zad X (1001000 + i) = zo X (1001000 + i) := by rw [zad, if_neg (by omega)]
  rw [show (Value.int j :: Value.ref (1001000 + i) :: st).map (zrv X) = .int j :: .ref (zad X (1001000 + i)) :: st.map (zrv X) from rfl, e1]
  exact va_tb E.1 E.2.1 ((E.2.2.2.2.2.2.2.2.1.2.2.2.1.1.1 i hi).2.2.2.kept E.mv) (E.S S) hj rfl dg go
/-- a call on a text -/
theorem z_runVS {idx n i : Nat} {Av : List Value} (hi : i < z_nS) (hC : zCk Y2 n) (hE : yE Y2 = []) (hc : (yN Y2).cls = "java/lang/String") (hl : Cond.methodLink (yO Y) idx (yN Y2) ∈ z_T) (hin : Cond.instanceMethod (yN Y2) ∈ z_T) (hs : Cond.selects (yN Y2).cls (yN Y2) (yN Y2) ∈ z_T) (hn : Av.length = n) (hst : (st.map fun v => v.category).sum ≤ 8) (dg : decode (yB Y) pc = .ok (.invokevirtual idx, 3)) : zRun X Y d pc (.ref (1000000 + i) :: Av) st Y2 M := by
  intro o1 M1 p e Rm s m args below meth c mc ms mc1 ms1 E hM H locs cells slots la hH hla h1 h2
  have hts := E.2.2.2.2.2.1
  have e1 : zad X (1000000 + i) = zo X (1000000 + i) := by rw [zad, if_neg (by omega)]
  have hrecv : ∃ cellB : Cell, H[zad X (1000000 + i)]? = some cellB ∧ cellB.vm.isStatics = false ∧ s.vm.findClass (yN Y2).cls = some cellB.cls := by
    obtain ⟨cell, q1, q2, q3, q4⟩ := (E.2.2.2.2.2.2.2.2.1.2.2.2.1.1.1 i hi).1
    refine ⟨cell, ?_, q2, by rw [hc]; exact q3⟩
    rw [e1, hH.2.2.2.1 _ (Nat.not_le.mp q4)]
    exact q1
  exact vx_runV (As := Av.map (zrv X)) (b := zad X (1000000 + i)) ⟨E.1, E.2.1, E.2.2.2.1, E.2.2.2.2.1, hts⟩ hM ⟨z_callB E hC hE hl, hts _ hin, hts _ hs⟩ ⟨zPc.blind, hrecv, zPc.pre hH E.2.2.2.2.2.2.2.2.1⟩ rfl (by rw [List.length_map]; exact hn) hla z_stk (by rw [z_cat]; show 2 * 0 + _ ≤ 8; omega) dg ⟨h1, h2⟩
theorem r_bret {x : Int32} (hr : yR Y = some .byte) (hx : narrow .byte (.int x) = .int x) (dg : decode (yB Y) pc = .ok (.ireturn, 1)) : Rn X Y d pc ls [.int x] M (some (.inl (some (.int x)), M)) :=
  r_fin (v := some (.int x)) (fun p e Rm s m args below meth c H locs mc ms la Qc h1 h2 h3 h4 h5 h6 => W.zret (v := x) (ty := .byte) h1 h2 (h3.trans hr) hx h5 h6 dg h4)
theorem r_cret {x : Int32} (hr : yR Y = some .char) (hx : narrow .char (.int x) = .int x) (dg : decode (yB Y) pc = .ok (.ireturn, 1)) : Rn X Y d pc ls [.int x] M (some (.inl (some (.int x)), M)) :=
  r_fin (v := some (.int x)) (fun p e Rm s m args below meth c H locs mc ms la Qc h1 h2 h3 h4 h5 h6 => W.zret (v := x) (ty := .char) h1 h2 (h3.trans hr) hx h5 h6 dg h4)
theorem r_i2c {x : Int32} (dg : decode (yB Y) pc = .ok (.i2c, 1)) (k : Rn X Y d (pc + 1) ls (.int (x.toUInt32 % 65536).toInt32 :: st) M r) : Rn X Y d pc ls (.int x :: st) M r := by
  intro o M' hr p e Rm s m args below meth c mc ms E H locs cells slots la S
  exact lv_i2c E.1 E.2.1 dg rfl (k o M' hr p e Rm s m args below meth c mc ms E H locs cells slots la S)
theorem r_aloadN_n {n : Fin 4} {i : Nat} (k0 : Nat) (dg : decode (yB Y) pc = .ok (.aload_n n, 1)) (hi : (n : Nat) = i) (hl : ls[k0]? = some (i, .null)) (k : Rn X Y d (pc + 1) ls (.null :: st) M r) : Rn X Y d pc ls st M r := by
  intro o M' hr p e Rm s m args below meth c mc ms E H locs cells slots la S
  exact lv_aload_nN E.1 E.2.1 dg hi (z_loc S.2.2.2.1 k0 hl) (k o M' hr p e Rm s m args below meth c mc ms E H locs cells slots la S)
/-- what a call that returns in the same memory asks for -/
theorem r_callP {d2 : Nat} {v : Option Value} (hR : zRun X Y d pc av st Y2 M) (hS : Sd X Y2 d av M (some (.inl v, M))) (hg : zGr M r) (k : Rn X Y (d + 1) (pc + 3) ls (v.toList ++ st) M r) : Rn X Y (d + 1) pc ls (av.reverse ++ st) M r := by
  refine r_call (d2 := d2) hR hS (fun h => by cases h) (fun v M1 h => ?_) (fun E M1 h => by cases h)
  cases h
  exact ⟨⟨Nat.le_refl _, Nat.le_refl _⟩, hg, k⟩
theorem zGr.same {o : zOut} : zGr M (some (o, M)) := fun o M' h => by cases h; exact ⟨Nat.le_refl _, Nat.le_refl _⟩
theorem s_JS_coder (hst : (zl X).stackTraces = false) {i : Nat} (hi : i < z_nS) : Sd X m_JS_coder d [.ref (1000000 + i)] M (some (.inl (some (.int 0)), M)) := by
  refine z_body ck_JS_coder rfl (Nat.le_of_ble_eq_true rfl) rfl hst ?_
  refine z_cs rfl d_JS_coder_0 ?_
  refine b_if_eq 13 d_JS_coder_3 (by decide) (fun h => absurd h (by decide)) (fun _ => ?_)
  refine r_aload_n 0 d_JS_coder_6 rfl rfl ?_
  refine z_getSc hi rfl d_JS_coder_7 ?_
  refine r_goto 14 d_JS_coder_10 (by decide) ?_
  exact r_bret rfl rfl d_JS_coder_14
theorem s_JS_isLatin1 (hst : (zl X).stackTraces = false) {i : Nat} (hi : i < z_nS) : Sd X m_JS_isLatin1 d [.ref (1000000 + i)] M (some (.inl (some (.int 1)), M)) := by
  refine z_body ck_JS_isLatin1 rfl (Nat.le_of_ble_eq_true rfl) rfl hst ?_
  refine z_cs rfl d_JS_isLatin1_0 ?_
  refine b_if_eq 17 d_JS_isLatin1_3 (by decide) (fun h => absurd h (by decide)) (fun _ => ?_)
  refine r_aload_n 0 d_JS_isLatin1_6 rfl rfl ?_
  refine z_getSc hi rfl d_JS_isLatin1_7 ?_
  refine b_if_ne 17 d_JS_isLatin1_10 (by decide) (fun h => absurd rfl h) (fun _ => ?_)
  refine r_iconst 1 d_JS_isLatin1_13 rfl ?_
  refine r_goto 18 d_JS_isLatin1_14 (by decide) ?_
  exact r_zret rfl (Or.inr rfl) d_JS_isLatin1_18
theorem s_JS_length (hst : (zl X).stackTraces = false) {i : Nat} (hi : i < z_nS) : Sd X m_JS_length (d + 1) [.ref (1000000 + i)] M (some (.inl (some (.int (Int32.ofNat (z_lenS.getD i 0)))), M)) := by
  refine z_body ck_JS_length rfl (Nat.le_of_ble_eq_true rfl) rfl hst ?_
  refine r_aload_n 0 d_JS_length_0 rfl rfl ?_
  refine z_getSv hi rfl d_JS_length_1 ?_
  refine z_tlen hi d_JS_length_4 ?_
  refine r_aload_n 0 d_JS_length_5 rfl rfl ?_
  refine r_callP (d2 := 0) (av := [.ref (1000000 + i)]) (st := [.int (Int32.ofNat (z_lenS.getD i 0))]) (z_runVS hi ck_JS_coder rfl rfl ml_JS_335 ci_JS_coder cv_JS_coder rfl (Nat.le_of_ble_eq_true rfl) d_JS_length_6) (s_JS_coder hst hi) zGr.same ?_
  refine r_ishr d_JS_length_9 ?_
  have e : ∀ x : Int32, x >>> ((0 : Int32) &&& 31) = x := fun x => by simp
  rw [e]
  exact r_iret rfl d_JS_length_10
theorem s_JP_checkIndex (hst : (zl X).stackTraces = false) {i n : Int32} {v : Value} (hv : v.category = 1) (h0 : ¬ i < 0) (h1 : i < n) : Sd X m_JP_checkIndex d [.int i, .int n, v] M (some (.inl (some (.int i)), M)) := by
  refine z_body ck_JP_checkIndex rfl ?_ rfl hst ?_
  · have e : (lg_sl [.int i, .int n, v]).length = 3 := by
      simp only [lg_sl, List.flatMap_cons, List.flatMap_nil, hv]
      rfl
    rw [e]
    exact Nat.le_of_ble_eq_true rfl
  refine r_iload_n 0 d_JP_checkIndex_0 rfl rfl ?_
  refine b_if_lt 9 d_JP_checkIndex_1 (by decide) (fun h => absurd h h0) (fun _ => ?_)
  refine r_iload_n 0 d_JP_checkIndex_4 rfl rfl ?_
  refine r_iload_n 1 d_JP_checkIndex_5 rfl rfl ?_
  refine b_icmp_lt 16 d_JP_checkIndex_6 (by decide) (fun _ => ?_) (fun h => absurd h1 h)
  refine r_iload_n 0 d_JP_checkIndex_16 rfl rfl ?_
  exact r_iret rfl d_JP_checkIndex_17
theorem s_JS_checkIndex (hst : (zl X).stackTraces = false) {i n : Int32} (h0 : ¬ i < 0) (h1 : i < n) : Sd X m_JS_checkIndex (d + 1) [.int i, .int n] M (some (.inl none, M)) := by
  refine z_body ck_JS_checkIndex rfl (Nat.le_of_ble_eq_true rfl) rfl hst ?_
  refine r_iload_n 0 d_JS_checkIndex_0 rfl rfl ?_
  refine r_iload_n 1 d_JS_checkIndex_1 rfl rfl ?_
  have go : ∀ v : Value, v.category = 1 → Rn X m_JS_checkIndex (d + 1) 5 (lv_args 0 [.int i, .int n]) [v, .int n, .int i] M (some (.inl none, M)) := fun v hv => by
    refine r_callP (d2 := 0) (av := [.int i, .int n, v]) (st := []) (z_runS ck_JP_checkIndex rfl ml_JS_1059 cs_JP_checkIndex rfl (Nat.le_of_ble_eq_true rfl) d_JS_checkIndex_5) (s_JP_checkIndex hst hv h0 h1) zGr.same ?_
    refine r_pop d_JS_checkIndex_8 rfl ?_
    exact r_vret rfl d_JS_checkIndex_9
  exact z_sio rfl d_JS_checkIndex_2 (go _ rfl) (go _ rfl)
/-- the sign at place j of text i -/
def z_ch (i j : Nat) : Int32 := (z_bytS.getD i []).getD j 0
theorem z_bytes : ∀ i, i < z_nS → (z_lenS.getD i 0 = (z_bytS.getD i []).length ∧ (z_bytS.getD i []).length < 100 ∧ ∀ b ∈ z_bytS.getD i [], 0 ≤ b ∧ b < 128) := by decide +kernel
theorem z_chv {i j : Nat} (hi : i < z_nS) (hj : j < z_lenS.getD i 0) : ((z_ch i j &&& 255).toUInt32 % 65536).toInt32 = z_ch i j ∧ narrow .char (.int (z_ch i j)) = .int (z_ch i j) := by
  obtain ⟨h1, h2, h3⟩ := z_bytes i hi
  have hm : z_ch i j ∈ z_bytS.getD i [] := by
    unfold z_ch
    generalize z_bytS.getD i [] = l at h1 h2 h3 ⊢
    rw [List.getD_eq_getElem?_getD, List.getElem?_eq_getElem (show j < l.length by omega)]
    exact List.getElem_mem _
  obtain ⟨g1, g2⟩ := h3 _ hm
  generalize z_ch i j = x at g1 g2
  have hx : ∃ n : Nat, n < 128 ∧ x = nI n := by
    obtain ⟨n, hn, rfl⟩ := nI_of (x := x) (Int32.not_lt.mpr g1)
    refine ⟨n, ?_, rfl⟩
    rw [Int32.lt_iff_toInt_lt, nI_toInt hn] at g2
    have : (128 : Int32).toInt = 128 := rfl
    omega
  obtain ⟨n, hn, rfl⟩ := hx
  have key : ∀ n, n < 128 → ((nI n &&& 255).toUInt32 % 65536).toInt32 = nI n ∧ narrow .char (.int (nI n)) = .int (nI n) := by decide +kernel
  exact key n hn
theorem s_JL_charAt (hst : (zl X).stackTraces = false) {i j : Nat} (hi : i < z_nS) (hj : j < z_lenS.getD i 0) : Sd X m_JL_charAt (d + 2) [.ref (1001000 + i), .int (nI j)] M (some (.inl (some (.int (z_ch i j))), M)) := by
  obtain ⟨h1, h2, h3⟩ := z_bytes i hi
  have e1 : (nI j).toNatClampNeg = j := nI_clamp (by omega)
  refine z_body ck_JL_charAt rfl (Nat.le_of_ble_eq_true rfl) rfl hst ?_
  refine r_iload_n 1 d_JL_charAt_0 rfl rfl ?_
  refine r_aload_n 0 d_JL_charAt_1 rfl rfl ?_
  refine z_tlen hi d_JL_charAt_2 ?_
  refine r_callP (d2 := 0) (av := [.int (nI j), .int (Int32.ofNat (z_lenS.getD i 0))]) (st := []) (z_runS ck_JS_checkIndex rfl ml_JL_9 cs_JS_checkIndex rfl (Nat.le_of_ble_eq_true rfl) d_JL_charAt_3) (s_JS_checkIndex hst (nI_pos (by omega)) (nI_lt hj (by omega))) zGr.same ?_
  refine r_aload_n 0 d_JL_charAt_6 rfl rfl ?_
  refine r_iload_n 1 d_JL_charAt_7 rfl rfl ?_
  refine z_tb hi (vp_in_nI hj (by omega)) d_JL_charAt_8 ?_
  refine r_sipush 255 d_JL_charAt_9 rfl ?_
  refine r_iand d_JL_charAt_12 ?_
  refine r_i2c d_JL_charAt_13 ?_
  obtain ⟨k1, k2⟩ := z_chv hi hj
  rw [e1]
  show Rn X m_JL_charAt (d + 2) _ _ [.int ((z_ch i j &&& 255).toUInt32 % 65536).toInt32] M _
  rw [k1]
  exact r_cret rfl k2 d_JL_charAt_14
theorem s_JS_charAt (hst : (zl X).stackTraces = false) {i j : Nat} (hi : i < z_nS) (hj : j < z_lenS.getD i 0) : Sd X m_JS_charAt (d + 3) [.ref (1000000 + i), .int (nI j)] M (some (.inl (some (.int (z_ch i j))), M)) := by
  obtain ⟨k1, k2⟩ := z_chv hi hj
  refine z_body ck_JS_charAt rfl (Nat.le_of_ble_eq_true rfl) rfl hst ?_
  refine r_aload_n 0 d_JS_charAt_0 rfl rfl ?_
  refine r_callP (d2 := 0) (av := [.ref (1000000 + i)]) (st := []) (z_runVS hi ck_JS_isLatin1 rfl rfl ml_JS_492 ci_JS_isLatin1 cv_JS_isLatin1 rfl (Nat.le_of_ble_eq_true rfl) d_JS_charAt_1) (s_JS_isLatin1 hst hi) zGr.same ?_
  refine b_if_eq 16 d_JS_charAt_4 (by decide) (fun h => absurd h (by decide)) (fun _ => ?_)
  refine r_aload_n 0 d_JS_charAt_7 rfl rfl ?_
  refine z_getSv hi rfl d_JS_charAt_8 ?_
  refine r_iload_n 1 d_JS_charAt_11 rfl rfl ?_
  refine r_callP (d2 := 0) (av := [.ref (1001000 + i), .int (nI j)]) (st := []) (z_runS ck_JL_charAt rfl ml_JS_495 cs_JL_charAt rfl (Nat.le_of_ble_eq_true rfl) d_JS_charAt_12) (s_JL_charAt hst hi hj) zGr.same ?_
  exact r_cret rfl k2 d_JS_charAt_15
end ROWS6

