/-! CONSTRUCTORS: the memory is concrete; its kinds are the first i of the standing ones -/
def zC0 (M : zM) (i : Nat) : Prop := M.1.1 = zK0.take i ∧ M.1.2.2 = 0 ∧ i ≤ zK0.length
theorem zTk_sum : ∀ (l : List (Nat × Nat)) (i j : Nat), i ≤ j → ((l.take i).map (fun q => q.2)).sum ≤ ((l.take j).map (fun q => q.2)).sum
  | [], _, _, _ => by simp
  | a :: l, 0, j, _ => by simp
  | a :: l, i + 1, 0, h => by omega
  | a :: l, i + 1, j + 1, h => by
    have := zTk_sum l i j (by omega)
    simp only [List.take_succ_cons, List.map_cons, List.sum_cons]
    omega
theorem zC0.le {M M2 : zM} {i j : Nat} (h : zC0 M i) (h2 : zC0 M2 j) (hij : i ≤ j) : zcc M ≤ zcc M2 ∧ zsc M ≤ zsc M2 := by
  have := zTk_sum zK0 i j hij
  simp only [zcc, zsc, h.1, h.2.1, h2.1, h2.2.1, List.length_take]
  omega
theorem zC0.gr {M M2 : zM} {i j : Nat} {o : zOut} (h : zC0 M i) (h2 : zC0 M2 j) (hij : i ≤ j) : zGr M (some (o, M2)) := fun o' M' e => by
  cases e
  exact h.le h2 hij
theorem zC0.at {M : zM} {i k : Nat} {kd : Nat × Nat} (h : zC0 M i) (hk : k < i) (e : zK0[k]? = some kd) : M.1.1[k]? = some kd := by
  rw [h.1, List.getElem?_take, if_pos hk, e]
theorem zC0.len {M : zM} {i : Nat} (h : zC0 M i) : M.1.1.length = i := by
  rw [h.1, List.length_take]
  have := h.2.2
  omega
theorem zC0.al {M : zM} {i : Nat} {kd : Nat × Nat} (h : zC0 M i) (e : zK0[i]? = some kd) : zC0 (zAl M kd) (i + 1) := by
  have hlt := (List.getElem?_eq_some_iff.mp e).1
  refine ⟨?_, h.2.1, hlt⟩
  show M.1.1 ++ [kd] = _
  rw [h.1, List.take_add_one, e]
  rfl
theorem zC0.am {M : zM} {i t n k : Nat} (h : zC0 M i) (e : zK0.take (i + 1 + n) = zK0.take i ++ (t, n) :: List.replicate n (if t = 4 then 0 else 3, k)) (hl : i + 1 + n ≤ zK0.length) : zC0 (zAm M t n k) (i + 1 + n) :=
  ⟨by show M.1.1 ++ _ = _; rw [h.1, e], h.2.1, hl⟩
theorem zC0.wR {M : zM} {i k j q : Nat} (h : zC0 M i) : zC0 (sR M k j q) i := h
theorem zC0.wD {M : zM} {i : Nat} {D : zD} (h : zC0 M i) : zC0 (M.1, D) i := h
theorem zKlen : zK0.length = 207 := by decide +kernel
section ROWSC
variable {X : zX} {Y Y2 : zY} {d pc : Nat} {ls : List (Nat × Value)} {st av : List Value} {M M2 Me : zM} {i je : Nat}
theorem zC0.small {M : zM} {i : Nat} (h : zC0 M i) : M.1.1.length < 90000 := by
  have h1 := h.2.2
  rw [zKlen] at h1
  rw [h.len]
  omega
theorem rc_new {idx ci N : Nat} {C : String} {T : u_T} {t : Nat → FieldType} (hM : zC0 M i) (he : zC0 Me je) (hij : i + 1 ≤ je) (hk : zK0[i]? = some (ci + 7, N)) (e2 : M2 = zAl M (ci + 7, N)) (hC : zCf ci N C T t) (hdv : ∀ j, j < N → defaultValue (t j) = if zrf ci j then .null else .int 0) (w1 : Cond.classLink (yO Y) idx C ∈ z_T) (w2 : Cond.instantiable C N ∈ z_T) (w3 : Cond.initialized C ∈ z_T) (dg : decode (yB Y) pc = .ok (.new idx, 3)) (kk : Rn X Y d (pc + 3) ls (.ref i :: st) M2 (some (.inl none, Me))) : Rn X Y d pc ls st M (some (.inl none, Me)) := by
  subst e2
  refine r_new hC hdv w1 w2 w3 hM.2.1 (Nat.lt_trans hM.small (by decide)) ((hM.al hk).gr he hij) dg ?_
  rw [hM.len]
  exact kk
theorem rc_newa {t N : Nat} {at0 : ArrayType} {ty : FieldType} {n : Int32} (hM : zC0 M i) (he : zC0 Me je) (hij : i + 1 ≤ je) (hk : zK0[i]? = some (t, N)) (e2 : M2 = zAl M (t, N)) (hty : newarray.typeOf at0 = ty) (ht : (t = 0 ∧ ty = .int) ∨ (t = 1 ∧ ty = .long) ∨ (t = 2 ∧ ty = .byte) ∨ (t = 3 ∧ ty = .boolean)) (w1 : Cond.arrayClass ty ∈ z_T) (hn : ¬ n < 0) (hN : n.toNatClampNeg = N) (hb : N ≤ 60000) (dg : decode (yB Y) pc = .ok (.newarray at0, 2)) (kk : Rn X Y d (pc + 2) ls (.ref i :: st) M2 (some (.inl none, Me))) : Rn X Y d pc ls (.int n :: st) M (some (.inl none, Me)) := by
  subst e2
  refine r_newa hty ht w1 hn hN hb hM.2.1 (Nat.lt_trans hM.small (by decide)) ((hM.al hk).gr he hij) dg ?_
  rw [hM.len]
  exact kk
theorem rc_anew {idx N : Nat} {n : Int32} (hM : zC0 M i) (he : zC0 Me je) (hij : i + 1 ≤ je) (hk : zK0[i]? = some (6, N)) (e2 : M2 = zAl M (6, N)) (w1 : Cond.classLink (yO Y) idx "CoveredSigns$Covers" ∈ z_T) (hn : ¬ n < 0) (hN : n.toNatClampNeg = N) (hb : N ≤ 60000) (dg : decode (yB Y) pc = .ok (.anewarray idx, 3)) (kk : Rn X Y d (pc + 3) ls (.ref i :: st) M2 (some (.inl none, Me))) : Rn X Y d pc ls (.int n :: st) M (some (.inl none, Me)) := by
  subst e2
  refine r_anew w1 hn hN hb hM.2.1 (Nat.lt_trans hM.small (by decide)) ((hM.al hk).gr he hij) dg ?_
  rw [hM.len]
  exact kk
theorem rc_mna {idx t N K : Nat} {ty : FieldType} {n k : Int32} (hM : zC0 M i) (he : zC0 Me je) (hM2 : zC0 M2 (i + 1 + N)) (hij : i + 1 + N ≤ je) (e2 : M2 = zAm M t N K) (ht : (t = 4 ∧ ty = .int) ∨ (t = 5 ∧ ty = .boolean)) (w1 : Cond.classLink (yO Y) idx ("[" ++ (FieldType.array ty).toString) ∈ z_T) (w2 : Cond.arrayClass ty ∈ z_T) (hn : ¬ n < 0) (hk : ¬ k < 0) (hN : n.toNatClampNeg = N) (hK' : k.toNatClampNeg = K) (hb : N ≤ 1000 ∧ K ≤ 1000) (dg : decode (yB Y) pc = .ok (.multianewarray idx 2, 4)) (kk : Rn X Y d (pc + 4) ls (.ref i :: st) M2 (some (.inl none, Me))) : Rn X Y d pc ls (.int k :: .int n :: st) M (some (.inl none, Me)) := by
  subst e2
  refine r_mna ht w1 w2 hn hk hN hK' hb hM.2.1 hM.small (hM2.gr he hij) dg ?_
  rw [hM.len]
  exact kk
variable {r : Option (zOut × zM)}
theorem rc_putF {idx ci j N k q : Nat} {ty : FieldType} (hM : zC0 M i) (hki : k < i) (hk : zK0[k]? = some (ci + 7, N)) (e2 : M2 = sR M k j q) (g : zPF (yO Y) idx ci j N ty) (hf : zrf ci j = true) (ht : (∃ n, ty = .object n) ∨ ∃ t, ty = .array t) (hin : (yN Y).name = "<init>") (dg : decode (yB Y) pc = .ok (.putfield idx, 3)) (kk : Rn X Y d (pc + 3) ls st M2 r) : Rn X Y d pc ls (.ref q :: .ref k :: st) M r := by
  subst e2
  exact r_putF g (hM.at hki hk) hf ht hin dg kk
theorem rc_putI {idx ci j N k : Nat} {ty : FieldType} {x : Int32} (hM : zC0 M i) (hki : k < i) (hk : zK0[k]? = some (ci + 7, N)) (e2 : M2 = (M.1, sI M.2 k j x)) (g : zPf (yO Y) idx ci j N ty) (hf : zrf ci j = false) (ht : ty = .int ∨ (ty = .boolean ∧ (x = 0 ∨ x = 1))) (dg : decode (yB Y) pc = .ok (.putfield idx, 3)) (kk : Rn X Y d (pc + 3) ls st M2 r) : Rn X Y d pc ls (.int x :: .ref k :: st) M r := by
  subst e2
  exact r_putI (Sh := M.1) (D := M.2) g (hM.at hki hk) hf ht dg kk
theorem rc_iast {k n : Nat} {j : Int32} {x : Int32} (hM : zC0 M i) (hki : k < i) (hk : zK0[k]? = some (0, n)) (e2 : M2 = (M.1, sI M.2 k j.toNatClampNeg x)) (hin : vp_in j n) (dg : decode (yB Y) pc = .ok (.iastore, 1)) (kk : Rn X Y d (pc + 1) ls st M2 r) : Rn X Y d pc ls (.int x :: .int j :: .ref k :: st) M r := by
  subst e2
  exact r_iast (Sh := M.1) (D := M.2) (hM.at hki hk) hin dg kk
theorem rc_aast {k n q N ci : Nat} {j : Int32} {jn : Nat} (hM : zC0 M i) (hki : k < i) (hqi : q < i) (hk : zK0[k]? = some (6, n)) (hq : zK0[q]? = some (ci + 7, N)) (hj : j.toNatClampNeg = jn) (e2 : M2 = sR M k jn q) {T : u_T} (hc : z_cl[ci]? = some ("CoveredSigns$Covers", T, N)) (hin : vp_in j n) (dg : decode (yB Y) pc = .ok (.aastore, 1)) (kk : Rn X Y d (pc + 1) ls st M2 r) : Rn X Y d pc ls (.ref q :: .int j :: .ref k :: st) M r := by
  subst hj
  subst e2
  exact r_aast (hM.at hki hk) (hM.at hqi hq) hc hin dg kk
theorem rc_getR {idx ci j N k q : Nat} (hM : zC0 M i) (hki : k < i) (hk : zK0[k]? = some (ci + 7, N)) (hq : M.1.2.1 k j = some q) (g : zGf (yO Y) idx ci j N) (hf : zrf ci j = true) (dg : decode (yB Y) pc = .ok (.getfield idx, 3)) (kk : Rn X Y d (pc + 3) ls (.ref q :: st) M r) : Rn X Y d pc ls (.ref k :: st) M r := r_getR g (hM.at hki hk) hf hq dg kk
theorem rc_call {Y2 : zY} {i2 d2 : Nat} (hM : zC0 M i) (hM2 : zC0 M2 i2) (he : zC0 Me je) (h1 : i ≤ i2) (h2 : i2 ≤ je) (hR : zRun X Y d pc av st Y2 M) (hS : Sd X Y2 d av M (some (.inl none, M2))) (kk : Rn X Y (d + 1) (pc + 3) ls st M2 (some (.inl none, Me))) : Rn X Y (d + 1) pc ls (av.reverse ++ st) M (some (.inl none, Me)) := by
  refine r_call (d2 := d2) hR hS (fun h => by cases h) (fun v M1 h => ?_) (fun E M1 h => by cases h)
  cases h
  exact ⟨hM.le hM2 h1, hM2.gr he h2, kk⟩
end ROWSC
theorem z_mnI : "[" ++ (FieldType.array .int).toString = "[[I" := by decide +kernel
theorem z_mnZ : "[" ++ (FieldType.array .boolean).toString = "[[Z" := by decide +kernel
/-- a row filled -/
def zfill (D : zD) (k n : Nat) (v : Int32) : zD := (D.1, fun a b => if a = k ∧ b < n then v else D.2 a b)
theorem fill_loop (a n : Nat) (v : Int32) (hn : n < 2147483648) : ∀ (m f : Nat) (D D0 : zD), m ≤ n → n - m < f → D = zfill D0 a m v → fn_JA_fill2_5 a n v f (Int32.ofNat m) (Int32.ofNat n) D = some (zfill D0 a n v) := by
  intro m f
  induction f generalizing m with
  | zero => intro D D0 h1 h2; omega
  | succ f ih =>
    intro D D0 h1 h2 h3
    rw [fn_JA_fill2_5]
    have hm : (Int32.ofNat m).toInt = m := nI_toInt (n := m) (by omega)
    have hnn : (Int32.ofNat n).toInt = n := nI_toInt (n := n) (by omega)
    have hc : (Int32.ofNat m).toNatClampNeg = m := nI_clamp (by omega)
    by_cases h : m = n
    · subst h
      rw [if_pos (Int32.le_refl _), h3]
    · rw [if_neg (by rw [Int32.le_iff_toInt_le]; omega), zck_in (by rw [hc, Int32.lt_iff_toInt_lt]; simp only [hm]; have : (0 : Int32).toInt = 0 := rfl; omega)]
      show fn_JA_fill2_5 a n v f (Int32.ofNat m + 1) (Int32.ofNat n) (sI D a (Int32.ofNat m).toNatClampNeg v) = _
      have e1 : Int32.ofNat m + 1 = Int32.ofNat (m + 1) := by
        apply Int32.toInt_inj.mp
        rw [show (Int32.ofNat (m+1)).toInt = ((m + 1 : Nat) : Int) from nI_toInt (n := m + 1) (by omega), Int32.toInt_add, hm]
        have : (1 : Int32).toInt = 1 := rfl
        rw [this]
        have : Int.bmod ((m : Int) + 1) (2 ^ 32) = m + 1 := by
          apply Int.bmod_eq_of_le <;> omega
        simpa using this
      rw [e1, hc]
      refine ih (m + 1) _ D0 (by omega) (by omega) ?_
      subst h3
      simp only [sI, zfill]
      congr 1
      funext x y
      by_cases hx : x = a
      · subst hx
        by_cases hy : y = m
        · subst hy; simp
        · by_cases hy2 : y < m
          · simp [hy, hy2, show y < m + 1 by omega]
          · simp [hy, hy2, show ¬ y < m + 1 by omega]
      · simp [hx]
theorem fill_eq {a n : Nat} {v : Int32} {D : zD} (hn : n < 2147483648) : fn_JA_fill2 a n v D = some (zfill D a n v) := by
  have h := fill_loop a n v hn 0 zFU D D (Nat.zero_le _) (by unfold zFU; omega) (by simp [zfill])
  have e : Int32.ofNat 0 = 0 := rfl
  rw [e] at h
  rw [fn_JA_fill2, zlet, h]

theorem s_JA_fillC_5 {X : zX} {Sh : zSh} {d : Nat} (hst : (zl X).stackTraces = false) (hd : 0 ≤ d) {a0 n0 : Nat} {v1 : Int32} (h_a0 : Sh.1[a0]? = some (0, n0)) (hn0 : n0 < 2147483648) : ∀ (n : Nat) (v2 : Int32) (v3 : Int32) (D : zD) , Rn X m_JA_fill2 (d + 1) 5 [(0, .ref a0), (1, .int v1), (2, .int v2), (3, .int v3)] [] (Sh, D) ((oV Sh) (fn_JA_fill2_5 a0 n0 v1 n v2 v3 D)) := by
  intro n
  induction n with
  | zero => intro v2 v3 D; exact Rn_none rfl
  | succ n hk5 =>
    intro v2 v3 D
    rw [fn_JA_fill2_5]
    refine r_iload_n (pc := 5) 2 d_JA_fill2_5 rfl rfl ?_
    refine r_iload_n (pc := 6) 3 d_JA_fill2_6 rfl rfl ?_
    refine r_icmp_ge (f := (oV Sh)) (pc := 7) 20 d_JA_fill2_7 (by decide) (fun c2 => ?_) (fun c2 => ?_)
    · exact r_vret (pc := 20) rfl d_JA_fill2_20
    · refine r_aload_n (pc := 10) 0 d_JA_fill2_10 rfl rfl ?_
      refine r_iload_n (pc := 11) 2 d_JA_fill2_11 rfl rfl ?_
      refine r_iload_n (pc := 12) 1 d_JA_fill2_12 rfl rfl ?_
      refine r_ck (f := (oV Sh)) rfl (fun hc3 => ?_)
      refine q_iast (pc := 13) (j := v2.toNatClampNeg) h_a0 hc3 rfl  d_JA_fill2_13 ?_
      refine r_letD (f := (oV Sh)) (fun D4 => ?_)
      refine r_iinc (pc := 14) ((v2 + (1 : Int32))) 2 (ls' := [(2, .int (v2 + (1 : Int32))), (0, .ref a0), (1, .int v1), (3, .int v3)]) d_JA_fill2_14 rfl rfl (Nat.le_of_ble_eq_true rfl) rfl ?_
      refine r_goto (pc := 17) 5 d_JA_fill2_17 (by decide) ?_
      refine r_pick [1, 2, 0, 3] (ls' := [(0, .ref a0), (1, .int v1), (2, .int (v2 + (1 : Int32))), (3, .int v3)]) rfl ?_
      exact hk5 (v2 + (1 : Int32)) v3 D4 
theorem s_JA_fillC {X : zX} {Sh : zSh} {d : Nat} (hst : (zl X).stackTraces = false) (hd : 1 ≤ d) {a0 n0 : Nat} {v1 : Int32} (h_a0 : Sh.1[a0]? = some (0, n0)) (hn0 : n0 < 2147483648) {D : zD} : Sd X m_JA_fill2 d [.ref a0, .int v1] (Sh, D) ((oV Sh) (fn_JA_fill2 a0 n0 v1 D)) := by
  obtain ⟨d, rfl⟩ : ∃ e, d = e + 1 := ⟨d - 1, by omega⟩
  replace hd : 0 ≤ d := by omega
  refine z_body ck_JA_fill2 rfl (Nat.le_of_ble_eq_true rfl) rfl hst ?_
  rw [fn_JA_fill2]
  show Rn X m_JA_fill2 (d + 1) 0 [(0, .ref a0), (1, .int v1)] [] (Sh, D) _
  refine r_iconst (pc := 0) (0 : Int32) d_JA_fill2_0 rfl ?_
  refine r_istore_n (pc := 1) (ls' := [(2, .int (0 : Int32)), (0, .ref a0), (1, .int v1)]) d_JA_fill2_1 rfl (Nat.le_of_ble_eq_true rfl) rfl ?_
  refine r_aload_n (pc := 2) 1 d_JA_fill2_2 rfl rfl ?_
  refine r_alen (pc := 3) h_a0 (by decide) d_JA_fill2_3 ?_
  refine r_leti (f := (oV Sh)) (fun x1 => ?_)
  refine r_istore_n (pc := 4) (ls' := [(3, .int x1), (2, .int (0 : Int32)), (0, .ref a0), (1, .int v1)]) d_JA_fill2_4 rfl (Nat.le_of_ble_eq_true rfl) rfl ?_
  refine r_pick [2, 3, 1, 0] (ls' := [(0, .ref a0), (1, .int v1), (2, .int (0 : Int32)), (3, .int x1)]) rfl ?_
  exact s_JA_fillC_5 hst hd h_a0 hn0 zFU  (0 : Int32) x1 D
theorem zdv_0 : ∀ j, j < 12 → defaultValue (zt0 j) = if zrf 0 j then .null else .int 0 := fun j hj => match j, hj with
  | 0, _ => rfl
  | 1, _ => rfl
  | 2, _ => rfl
  | 3, _ => rfl
  | 4, _ => rfl
  | 5, _ => rfl
  | 6, _ => rfl
  | 7, _ => rfl
  | 8, _ => rfl
  | 9, _ => rfl
  | 10, _ => rfl
  | 11, _ => rfl
  | q + 12, h => absurd h (by omega)
theorem zcf_0 : zCf 0 12 zR0 zT0 zt0 := ⟨rfl, zi0, zt0_ok, zn0⟩
theorem zdv_1 : ∀ j, j < 2 → defaultValue (zt1 j) = if zrf 1 j then .null else .int 0 := fun j hj => match j, hj with
  | 0, _ => rfl
  | 1, _ => rfl
  | q + 2, h => absurd h (by omega)
theorem zcf_1 : zCf 1 2 zR1 zT1 zt1 := ⟨rfl, zi1, zt1_ok, zn1⟩
theorem zdv_2 : ∀ j, j < 6 → defaultValue (zt2 j) = if zrf 2 j then .null else .int 0 := fun j hj => match j, hj with
  | 0, _ => rfl
  | 1, _ => rfl
  | 2, _ => rfl
  | 3, _ => rfl
  | 4, _ => rfl
  | 5, _ => rfl
  | q + 6, h => absurd h (by omega)
theorem zcf_2 : zCf 2 6 zR2 zT2 zt2 := ⟨rfl, zi2, zt2_ok, zn2⟩
theorem zdv_3 : ∀ j, j < 2 → defaultValue (zt3 j) = if zrf 3 j then .null else .int 0 := fun j hj => match j, hj with
  | 0, _ => rfl
  | 1, _ => rfl
  | q + 2, h => absurd h (by omega)
theorem zcf_3 : zCf 3 2 zR3 zT3 zt3 := ⟨rfl, zi3, zt3_ok, zn3⟩
theorem zdv_4 : ∀ j, j < 4 → defaultValue (zt4 j) = if zrf 4 j then .null else .int 0 := fun j hj => match j, hj with
  | 0, _ => rfl
  | 1, _ => rfl
  | 2, _ => rfl
  | 3, _ => rfl
  | q + 4, h => absurd h (by omega)
theorem zcf_4 : zCf 4 4 zR4 zT4 zt4 := ⟨rfl, zi4, zt4_ok, zn4⟩
theorem zdv_5 : ∀ j, j < 3 → defaultValue (zt5 j) = if zrf 5 j then .null else .int 0 := fun j hj => match j, hj with
  | 0, _ => rfl
  | 1, _ => rfl
  | 2, _ => rfl
  | q + 3, h => absurd h (by omega)
theorem zcf_5 : zCf 5 3 zR5 zT5 zt5 := ⟨rfl, zi5, zt5_ok, zn5⟩
theorem zdv_6 : ∀ j, j < 4 → defaultValue (zt6 j) = if zrf 6 j then .null else .int 0 := fun j hj => match j, hj with
  | 0, _ => rfl
  | 1, _ => rfl
  | 2, _ => rfl
  | 3, _ => rfl
  | q + 4, h => absurd h (by omega)
theorem zcf_6 : zCf 6 4 zR6 zT6 zt6 := ⟨rfl, zi6, zt6_ok, zn6⟩
theorem zdv_7 : ∀ j, j < 7 → defaultValue (zt7 j) = if zrf 7 j then .null else .int 0 := fun j hj => match j, hj with
  | 0, _ => rfl
  | 1, _ => rfl
  | 2, _ => rfl
  | 3, _ => rfl
  | 4, _ => rfl
  | 5, _ => rfl
  | 6, _ => rfl
  | q + 7, h => absurd h (by omega)
theorem zcf_7 : zCf 7 7 zR7 zT7 zt7 := ⟨rfl, zi7, zt7_ok, zn7⟩
theorem zdv_8 : ∀ j, j < 5 → defaultValue (zt8 j) = if zrf 8 j then .null else .int 0 := fun j hj => match j, hj with
  | 0, _ => rfl
  | 1, _ => rfl
  | 2, _ => rfl
  | 3, _ => rfl
  | 4, _ => rfl
  | q + 5, h => absurd h (by omega)
theorem zcf_8 : zCf 8 5 zR8 zT8 zt8 := ⟨rfl, zi8, zt8_ok, zn8⟩
theorem zdv_9 : ∀ j, j < 8 → defaultValue (zt9 j) = if zrf 9 j then .null else .int 0 := fun j hj => match j, hj with
  | 0, _ => rfl
  | 1, _ => rfl
  | 2, _ => rfl
  | 3, _ => rfl
  | 4, _ => rfl
  | 5, _ => rfl
  | 6, _ => rfl
  | 7, _ => rfl
  | q + 8, h => absurd h (by omega)
theorem zcf_9 : zCf 9 8 zR9 zT9 zt9 := ⟨rfl, zi9, zt9_ok, zn9⟩
theorem zdv_10 : ∀ j, j < 8 → defaultValue (zt10 j) = if zrf 10 j then .null else .int 0 := fun j hj => match j, hj with
  | 0, _ => rfl
  | 1, _ => rfl
  | 2, _ => rfl
  | 3, _ => rfl
  | 4, _ => rfl
  | 5, _ => rfl
  | 6, _ => rfl
  | 7, _ => rfl
  | q + 8, h => absurd h (by omega)
theorem zcf_10 : zCf 10 8 zR10 zT10 zt10 := ⟨rfl, zi10, zt10_ok, zn10⟩
theorem zdv_11 : ∀ j, j < 19 → defaultValue (zt11 j) = if zrf 11 j then .null else .int 0 := fun j hj => match j, hj with
  | 0, _ => rfl
  | 1, _ => rfl
  | 2, _ => rfl
  | 3, _ => rfl
  | 4, _ => rfl
  | 5, _ => rfl
  | 6, _ => rfl
  | 7, _ => rfl
  | 8, _ => rfl
  | 9, _ => rfl
  | 10, _ => rfl
  | 11, _ => rfl
  | 12, _ => rfl
  | 13, _ => rfl
  | 14, _ => rfl
  | 15, _ => rfl
  | 16, _ => rfl
  | 17, _ => rfl
  | 18, _ => rfl
  | q + 19, h => absurd h (by omega)
theorem zcf_11 : zCf 11 19 zR11 zT11 zt11 := ⟨rfl, zi11, zt11_ok, zn11⟩
theorem zdv_12 : ∀ j, j < 57 → defaultValue (zt12 j) = if zrf 12 j then .null else .int 0 := fun j hj => match j, hj with
  | 0, _ => rfl
  | 1, _ => rfl
  | 2, _ => rfl
  | 3, _ => rfl
  | 4, _ => rfl
  | 5, _ => rfl
  | 6, _ => rfl
  | 7, _ => rfl
  | 8, _ => rfl
  | 9, _ => rfl
  | 10, _ => rfl
  | 11, _ => rfl
  | 12, _ => rfl
  | 13, _ => rfl
  | 14, _ => rfl
  | 15, _ => rfl
  | 16, _ => rfl
  | 17, _ => rfl
  | 18, _ => rfl
  | 19, _ => rfl
  | 20, _ => rfl
  | 21, _ => rfl
  | 22, _ => rfl
  | 23, _ => rfl
  | 24, _ => rfl
  | 25, _ => rfl
  | 26, _ => rfl
  | 27, _ => rfl
  | 28, _ => rfl
  | 29, _ => rfl
  | 30, _ => rfl
  | 31, _ => rfl
  | 32, _ => rfl
  | 33, _ => rfl
  | 34, _ => rfl
  | 35, _ => rfl
  | 36, _ => rfl
  | 37, _ => rfl
  | 38, _ => rfl
  | 39, _ => rfl
  | 40, _ => rfl
  | 41, _ => rfl
  | 42, _ => rfl
  | 43, _ => rfl
  | 44, _ => rfl
  | 45, _ => rfl
  | 46, _ => rfl
  | 47, _ => rfl
  | 48, _ => rfl
  | 49, _ => rfl
  | 50, _ => rfl
  | 51, _ => rfl
  | 52, _ => rfl
  | 53, _ => rfl
  | 54, _ => rfl
  | 55, _ => rfl
  | 56, _ => rfl
  | q + 57, h => absurd h (by omega)
theorem zcf_12 : zCf 12 57 zR12 zT12 zt12 := ⟨rfl, zi12, zt12_ok, zn12⟩
theorem d_X0_init_0 : decode (yB m_X0_init) 0 = .ok (.aload_n 0, 1) := by decide +kernel
theorem d_X0_init_1 : decode (yB m_X0_init) 1 = .ok (.invokespecial 3, 3) := by decide +kernel
theorem d_X0_init_4 : decode (yB m_X0_init) 4 = .ok (.aload_n 0, 1) := by decide +kernel
theorem d_X0_init_5 : decode (yB m_X0_init) 5 = .ok (.bipush 6, 2) := by decide +kernel
theorem d_X0_init_7 : decode (yB m_X0_init) 7 = .ok (.putfield 9, 3) := by decide +kernel
theorem d_X0_init_10 : decode (yB m_X0_init) 10 = .ok (.aload_n 0, 1) := by decide +kernel
theorem d_X0_init_11 : decode (yB m_X0_init) 11 = .ok (.iconst 5, 1) := by decide +kernel
theorem d_X0_init_12 : decode (yB m_X0_init) 12 = .ok (.putfield 15, 3) := by decide +kernel
theorem d_X0_init_15 : decode (yB m_X0_init) 15 = .ok (.aload_n 0, 1) := by decide +kernel
theorem d_X0_init_16 : decode (yB m_X0_init) 16 = .ok (.bipush 12, 2) := by decide +kernel
theorem d_X0_init_18 : decode (yB m_X0_init) 18 = .ok (.newarray .int, 2) := by decide +kernel
theorem d_X0_init_20 : decode (yB m_X0_init) 20 = .ok (.putfield 18, 3) := by decide +kernel
theorem d_X0_init_23 : decode (yB m_X0_init) 23 = .ok (.aload_n 0, 1) := by decide +kernel
theorem d_X0_init_24 : decode (yB m_X0_init) 24 = .ok (.bipush 12, 2) := by decide +kernel
theorem d_X0_init_26 : decode (yB m_X0_init) 26 = .ok (.newarray .int, 2) := by decide +kernel
theorem d_X0_init_28 : decode (yB m_X0_init) 28 = .ok (.putfield 22, 3) := by decide +kernel
theorem d_X0_init_31 : decode (yB m_X0_init) 31 = .ok (.aload_n 0, 1) := by decide +kernel
theorem d_X0_init_32 : decode (yB m_X0_init) 32 = .ok (.bipush 48, 2) := by decide +kernel
theorem d_X0_init_34 : decode (yB m_X0_init) 34 = .ok (.newarray .int, 2) := by decide +kernel
theorem d_X0_init_36 : decode (yB m_X0_init) 36 = .ok (.putfield 25, 3) := by decide +kernel
theorem d_X0_init_39 : decode (yB m_X0_init) 39 = .ok (.aload_n 0, 1) := by decide +kernel
theorem d_X0_init_40 : decode (yB m_X0_init) 40 = .ok (.bipush 8, 2) := by decide +kernel
theorem d_X0_init_42 : decode (yB m_X0_init) 42 = .ok (.newarray .int, 2) := by decide +kernel
theorem d_X0_init_44 : decode (yB m_X0_init) 44 = .ok (.putfield 28, 3) := by decide +kernel
theorem d_X0_init_47 : decode (yB m_X0_init) 47 = .ok (.aload_n 0, 1) := by decide +kernel
theorem d_X0_init_48 : decode (yB m_X0_init) 48 = .ok (.bipush 30, 2) := by decide +kernel
theorem d_X0_init_50 : decode (yB m_X0_init) 50 = .ok (.newarray .int, 2) := by decide +kernel
theorem d_X0_init_52 : decode (yB m_X0_init) 52 = .ok (.putfield 31, 3) := by decide +kernel
theorem d_X0_init_55 : decode (yB m_X0_init) 55 = .ok (.aload_n 0, 1) := by decide +kernel
theorem d_X0_init_56 : decode (yB m_X0_init) 56 = .ok (.bipush 30, 2) := by decide +kernel
theorem d_X0_init_58 : decode (yB m_X0_init) 58 = .ok (.newarray .int, 2) := by decide +kernel
theorem d_X0_init_60 : decode (yB m_X0_init) 60 = .ok (.putfield 34, 3) := by decide +kernel
theorem d_X0_init_63 : decode (yB m_X0_init) 63 = .ok (.aload_n 0, 1) := by decide +kernel
theorem d_X0_init_64 : decode (yB m_X0_init) 64 = .ok (.bipush 30, 2) := by decide +kernel
theorem d_X0_init_66 : decode (yB m_X0_init) 66 = .ok (.newarray .int, 2) := by decide +kernel
theorem d_X0_init_68 : decode (yB m_X0_init) 68 = .ok (.putfield 37, 3) := by decide +kernel
theorem d_X0_init_71 : decode (yB m_X0_init) 71 = .ok (.return_, 1) := by decide +kernel
theorem d_X1_init_0 : decode (yB m_X1_init) 0 = .ok (.aload_n 0, 1) := by decide +kernel
theorem d_X1_init_1 : decode (yB m_X1_init) 1 = .ok (.invokespecial 3, 3) := by decide +kernel
theorem d_X1_init_4 : decode (yB m_X1_init) 4 = .ok (.aload_n 0, 1) := by decide +kernel
theorem d_X1_init_5 : decode (yB m_X1_init) 5 = .ok (.new 9, 3) := by decide +kernel
theorem d_X1_init_8 : decode (yB m_X1_init) 8 = .ok (.dup, 1) := by decide +kernel
theorem d_X1_init_9 : decode (yB m_X1_init) 9 = .ok (.invokespecial 11, 3) := by decide +kernel
theorem d_X1_init_12 : decode (yB m_X1_init) 12 = .ok (.putfield 12, 3) := by decide +kernel
theorem d_X1_init_15 : decode (yB m_X1_init) 15 = .ok (.aload_n 0, 1) := by decide +kernel
theorem d_X1_init_16 : decode (yB m_X1_init) 16 = .ok (.aload_n 1, 1) := by decide +kernel
theorem d_X1_init_17 : decode (yB m_X1_init) 17 = .ok (.putfield 18, 3) := by decide +kernel
theorem d_X1_init_20 : decode (yB m_X1_init) 20 = .ok (.return_, 1) := by decide +kernel
theorem d_X2_init_0 : decode (yB m_X2_init) 0 = .ok (.aload_n 0, 1) := by decide +kernel
theorem d_X2_init_1 : decode (yB m_X2_init) 1 = .ok (.invokespecial 3, 3) := by decide +kernel
theorem d_X2_init_4 : decode (yB m_X2_init) 4 = .ok (.aload_n 0, 1) := by decide +kernel
theorem d_X2_init_5 : decode (yB m_X2_init) 5 = .ok (.bipush 64, 2) := by decide +kernel
theorem d_X2_init_7 : decode (yB m_X2_init) 7 = .ok (.newarray .long, 2) := by decide +kernel
theorem d_X2_init_9 : decode (yB m_X2_init) 9 = .ok (.putfield 11, 3) := by decide +kernel
theorem d_X2_init_12 : decode (yB m_X2_init) 12 = .ok (.aload_n 0, 1) := by decide +kernel
theorem d_X2_init_13 : decode (yB m_X2_init) 13 = .ok (.bipush 64, 2) := by decide +kernel
theorem d_X2_init_15 : decode (yB m_X2_init) 15 = .ok (.newarray .long, 2) := by decide +kernel
theorem d_X2_init_17 : decode (yB m_X2_init) 17 = .ok (.putfield 15, 3) := by decide +kernel
theorem d_X2_init_20 : decode (yB m_X2_init) 20 = .ok (.aload_n 0, 1) := by decide +kernel
theorem d_X2_init_21 : decode (yB m_X2_init) 21 = .ok (.bipush 64, 2) := by decide +kernel
theorem d_X2_init_23 : decode (yB m_X2_init) 23 = .ok (.newarray .long, 2) := by decide +kernel
theorem d_X2_init_25 : decode (yB m_X2_init) 25 = .ok (.putfield 18, 3) := by decide +kernel
theorem d_X2_init_28 : decode (yB m_X2_init) 28 = .ok (.aload_n 0, 1) := by decide +kernel
theorem d_X2_init_29 : decode (yB m_X2_init) 29 = .ok (.sipush 2176, 3) := by decide +kernel
theorem d_X2_init_32 : decode (yB m_X2_init) 32 = .ok (.newarray .int, 2) := by decide +kernel
theorem d_X2_init_34 : decode (yB m_X2_init) 34 = .ok (.putfield 21, 3) := by decide +kernel
theorem d_X2_init_37 : decode (yB m_X2_init) 37 = .ok (.return_, 1) := by decide +kernel
theorem d_X3_init_0 : decode (yB m_X3_init) 0 = .ok (.aload_n 0, 1) := by decide +kernel
theorem d_X3_init_1 : decode (yB m_X3_init) 1 = .ok (.invokespecial 3, 3) := by decide +kernel
theorem d_X3_init_4 : decode (yB m_X3_init) 4 = .ok (.aload_n 0, 1) := by decide +kernel
theorem d_X3_init_5 : decode (yB m_X3_init) 5 = .ok (.sipush 500, 3) := by decide +kernel
theorem d_X3_init_8 : decode (yB m_X3_init) 8 = .ok (.newarray .int, 2) := by decide +kernel
theorem d_X3_init_10 : decode (yB m_X3_init) 10 = .ok (.putfield 9, 3) := by decide +kernel
theorem d_X3_init_13 : decode (yB m_X3_init) 13 = .ok (.return_, 1) := by decide +kernel
theorem d_X4_init_0 : decode (yB m_X4_init) 0 = .ok (.aload_n 0, 1) := by decide +kernel
theorem d_X4_init_1 : decode (yB m_X4_init) 1 = .ok (.invokespecial 3, 3) := by decide +kernel
theorem d_X4_init_4 : decode (yB m_X4_init) 4 = .ok (.aload_n 0, 1) := by decide +kernel
theorem d_X4_init_5 : decode (yB m_X4_init) 5 = .ok (.bipush 12, 2) := by decide +kernel
theorem d_X4_init_7 : decode (yB m_X4_init) 7 = .ok (.newarray .int, 2) := by decide +kernel
theorem d_X4_init_9 : decode (yB m_X4_init) 9 = .ok (.putfield 9, 3) := by decide +kernel
theorem d_X4_init_12 : decode (yB m_X4_init) 12 = .ok (.return_, 1) := by decide +kernel
theorem d_X5_init_0 : decode (yB m_X5_init) 0 = .ok (.aload_n 0, 1) := by decide +kernel
theorem d_X5_init_1 : decode (yB m_X5_init) 1 = .ok (.invokespecial 3, 3) := by decide +kernel
theorem d_X5_init_4 : decode (yB m_X5_init) 4 = .ok (.aload_n 0, 1) := by decide +kernel
theorem d_X5_init_5 : decode (yB m_X5_init) 5 = .ok (.sipush 800, 3) := by decide +kernel
theorem d_X5_init_8 : decode (yB m_X5_init) 8 = .ok (.newarray .int, 2) := by decide +kernel
theorem d_X5_init_10 : decode (yB m_X5_init) 10 = .ok (.putfield 9, 3) := by decide +kernel
theorem d_X5_init_13 : decode (yB m_X5_init) 13 = .ok (.aload_n 0, 1) := by decide +kernel
theorem d_X5_init_14 : decode (yB m_X5_init) 14 = .ok (.sipush 800, 3) := by decide +kernel
theorem d_X5_init_17 : decode (yB m_X5_init) 17 = .ok (.newarray .int, 2) := by decide +kernel
theorem d_X5_init_19 : decode (yB m_X5_init) 19 = .ok (.putfield 15, 3) := by decide +kernel
theorem d_X5_init_22 : decode (yB m_X5_init) 22 = .ok (.aload_n 0, 1) := by decide +kernel
theorem d_X5_init_23 : decode (yB m_X5_init) 23 = .ok (.bipush 8, 2) := by decide +kernel
theorem d_X5_init_25 : decode (yB m_X5_init) 25 = .ok (.newarray .int, 2) := by decide +kernel
theorem d_X5_init_27 : decode (yB m_X5_init) 27 = .ok (.putfield 18, 3) := by decide +kernel
theorem d_X5_init_30 : decode (yB m_X5_init) 30 = .ok (.return_, 1) := by decide +kernel
theorem d_X6_init_0 : decode (yB m_X6_init) 0 = .ok (.aload_n 0, 1) := by decide +kernel
theorem d_X6_init_1 : decode (yB m_X6_init) 1 = .ok (.invokespecial 3, 3) := by decide +kernel
theorem d_X6_init_4 : decode (yB m_X6_init) 4 = .ok (.aload_n 0, 1) := by decide +kernel
theorem d_X6_init_5 : decode (yB m_X6_init) 5 = .ok (.aload_n 1, 1) := by decide +kernel
theorem d_X6_init_6 : decode (yB m_X6_init) 6 = .ok (.putfield 9, 3) := by decide +kernel
theorem d_X6_init_9 : decode (yB m_X6_init) 9 = .ok (.return_, 1) := by decide +kernel
theorem d_X7_init_0 : decode (yB m_X7_init) 0 = .ok (.aload_n 0, 1) := by decide +kernel
theorem d_X7_init_1 : decode (yB m_X7_init) 1 = .ok (.invokespecial 5, 3) := by decide +kernel
theorem d_X7_init_4 : decode (yB m_X7_init) 4 = .ok (.aload_n 0, 1) := by decide +kernel
theorem d_X7_init_5 : decode (yB m_X7_init) 5 = .ok (.bipush 15, 2) := by decide +kernel
theorem d_X7_init_7 : decode (yB m_X7_init) 7 = .ok (.anewarray 11, 3) := by decide +kernel
theorem d_X7_init_10 : decode (yB m_X7_init) 10 = .ok (.putfield 13, 3) := by decide +kernel
theorem d_X7_init_13 : decode (yB m_X7_init) 13 = .ok (.aload_n 0, 1) := by decide +kernel
theorem d_X7_init_14 : decode (yB m_X7_init) 14 = .ok (.new 11, 3) := by decide +kernel
theorem d_X7_init_17 : decode (yB m_X7_init) 17 = .ok (.dup, 1) := by decide +kernel
theorem d_X7_init_18 : decode (yB m_X7_init) 18 = .ok (.invokespecial 17, 3) := by decide +kernel
theorem d_X7_init_21 : decode (yB m_X7_init) 21 = .ok (.putfield 18, 3) := by decide +kernel
theorem d_X7_init_24 : decode (yB m_X7_init) 24 = .ok (.aload_n 0, 1) := by decide +kernel
theorem d_X7_init_25 : decode (yB m_X7_init) 25 = .ok (.sipush 1024, 3) := by decide +kernel
theorem d_X7_init_28 : decode (yB m_X7_init) 28 = .ok (.newarray .int, 2) := by decide +kernel
theorem d_X7_init_30 : decode (yB m_X7_init) 30 = .ok (.putfield 22, 3) := by decide +kernel
theorem d_X7_init_33 : decode (yB m_X7_init) 33 = .ok (.aload_n 0, 1) := by decide +kernel
theorem d_X7_init_34 : decode (yB m_X7_init) 34 = .ok (.aload_n 1, 1) := by decide +kernel
theorem d_X7_init_35 : decode (yB m_X7_init) 35 = .ok (.putfield 26, 3) := by decide +kernel
theorem d_X7_init_38 : decode (yB m_X7_init) 38 = .ok (.iconst 0, 1) := by decide +kernel
theorem d_X7_init_39 : decode (yB m_X7_init) 39 = .ok (.istore_n 2, 1) := by decide +kernel
theorem d_X7_init_40 : decode (yB m_X7_init) 40 = .ok (.iload_n 2, 1) := by decide +kernel
theorem d_X7_init_41 : decode (yB m_X7_init) 41 = .ok (.bipush 15, 2) := by decide +kernel
theorem d_X7_init_43 : decode (yB m_X7_init) 43 = .ok (.if_icmp .ge 22, 3) := by decide +kernel
theorem d_X7_init_46 : decode (yB m_X7_init) 46 = .ok (.aload_n 0, 1) := by decide +kernel
theorem d_X7_init_47 : decode (yB m_X7_init) 47 = .ok (.getfield 13, 3) := by decide +kernel
theorem d_X7_init_50 : decode (yB m_X7_init) 50 = .ok (.iload_n 2, 1) := by decide +kernel
theorem d_X7_init_51 : decode (yB m_X7_init) 51 = .ok (.new 11, 3) := by decide +kernel
theorem d_X7_init_54 : decode (yB m_X7_init) 54 = .ok (.dup, 1) := by decide +kernel
theorem d_X7_init_55 : decode (yB m_X7_init) 55 = .ok (.invokespecial 17, 3) := by decide +kernel
theorem d_X7_init_58 : decode (yB m_X7_init) 58 = .ok (.aastore, 1) := by decide +kernel
theorem d_X7_init_59 : decode (yB m_X7_init) 59 = .ok (.iinc 2 1, 3) := by decide +kernel
theorem d_X7_init_62 : decode (yB m_X7_init) 62 = .ok (.goto (-22), 3) := by decide +kernel
theorem d_X7_init_65 : decode (yB m_X7_init) 65 = .ok (.return_, 1) := by decide +kernel
theorem d_X8_init_0 : decode (yB m_X8_init) 0 = .ok (.aload_n 0, 1) := by decide +kernel
theorem d_X8_init_1 : decode (yB m_X8_init) 1 = .ok (.invokespecial 3, 3) := by decide +kernel
theorem d_X8_init_4 : decode (yB m_X8_init) 4 = .ok (.aload_n 0, 1) := by decide +kernel
theorem d_X8_init_5 : decode (yB m_X8_init) 5 = .ok (.iconst (-1), 1) := by decide +kernel
theorem d_X8_init_6 : decode (yB m_X8_init) 6 = .ok (.putfield 9, 3) := by decide +kernel
theorem d_X8_init_9 : decode (yB m_X8_init) 9 = .ok (.aload_n 0, 1) := by decide +kernel
theorem d_X8_init_10 : decode (yB m_X8_init) 10 = .ok (.aload_n 1, 1) := by decide +kernel
theorem d_X8_init_11 : decode (yB m_X8_init) 11 = .ok (.ifnonnull 9, 3) := by decide +kernel
theorem d_X8_init_14 : decode (yB m_X8_init) 14 = .ok (.iconst 0, 1) := by decide +kernel
theorem d_X8_init_15 : decode (yB m_X8_init) 15 = .ok (.newarray .byte, 2) := by decide +kernel
theorem d_X8_init_17 : decode (yB m_X8_init) 17 = .ok (.goto 4, 3) := by decide +kernel
theorem d_X8_init_20 : decode (yB m_X8_init) 20 = .ok (.aload_n 1, 1) := by decide +kernel
theorem d_X8_init_21 : decode (yB m_X8_init) 21 = .ok (.putfield 15, 3) := by decide +kernel
theorem d_X8_init_24 : decode (yB m_X8_init) 24 = .ok (.return_, 1) := by decide +kernel
theorem d_X9_init_0 : decode (yB m_X9_init) 0 = .ok (.aload_n 0, 1) := by decide +kernel
theorem d_X9_init_1 : decode (yB m_X9_init) 1 = .ok (.invokespecial 3, 3) := by decide +kernel
theorem d_X9_init_4 : decode (yB m_X9_init) 4 = .ok (.aload_n 0, 1) := by decide +kernel
theorem d_X9_init_5 : decode (yB m_X9_init) 5 = .ok (.bipush 6, 2) := by decide +kernel
theorem d_X9_init_7 : decode (yB m_X9_init) 7 = .ok (.newarray .int, 2) := by decide +kernel
theorem d_X9_init_9 : decode (yB m_X9_init) 9 = .ok (.putfield 9, 3) := by decide +kernel
theorem d_X9_init_12 : decode (yB m_X9_init) 12 = .ok (.aload_n 0, 1) := by decide +kernel
theorem d_X9_init_13 : decode (yB m_X9_init) 13 = .ok (.bipush 6, 2) := by decide +kernel
theorem d_X9_init_15 : decode (yB m_X9_init) 15 = .ok (.newarray .int, 2) := by decide +kernel
theorem d_X9_init_17 : decode (yB m_X9_init) 17 = .ok (.putfield 15, 3) := by decide +kernel
theorem d_X9_init_20 : decode (yB m_X9_init) 20 = .ok (.aload_n 0, 1) := by decide +kernel
theorem d_X9_init_21 : decode (yB m_X9_init) 21 = .ok (.bipush 8, 2) := by decide +kernel
theorem d_X9_init_23 : decode (yB m_X9_init) 23 = .ok (.newarray .int, 2) := by decide +kernel
theorem d_X9_init_25 : decode (yB m_X9_init) 25 = .ok (.putfield 18, 3) := by decide +kernel
theorem d_X9_init_28 : decode (yB m_X9_init) 28 = .ok (.aload_n 0, 1) := by decide +kernel
theorem d_X9_init_29 : decode (yB m_X9_init) 29 = .ok (.bipush 8, 2) := by decide +kernel
theorem d_X9_init_31 : decode (yB m_X9_init) 31 = .ok (.newarray .int, 2) := by decide +kernel
theorem d_X9_init_33 : decode (yB m_X9_init) 33 = .ok (.putfield 21, 3) := by decide +kernel
theorem d_X9_init_36 : decode (yB m_X9_init) 36 = .ok (.aload_n 0, 1) := by decide +kernel
theorem d_X9_init_37 : decode (yB m_X9_init) 37 = .ok (.bipush 8, 2) := by decide +kernel
theorem d_X9_init_39 : decode (yB m_X9_init) 39 = .ok (.newarray .int, 2) := by decide +kernel
theorem d_X9_init_41 : decode (yB m_X9_init) 41 = .ok (.putfield 24, 3) := by decide +kernel
theorem d_X9_init_44 : decode (yB m_X9_init) 44 = .ok (.return_, 1) := by decide +kernel
theorem d_X10_init_0 : decode (yB m_X10_init) 0 = .ok (.aload_n 0, 1) := by decide +kernel
theorem d_X10_init_1 : decode (yB m_X10_init) 1 = .ok (.invokespecial 3, 3) := by decide +kernel
theorem d_X10_init_4 : decode (yB m_X10_init) 4 = .ok (.aload_n 0, 1) := by decide +kernel
theorem d_X10_init_5 : decode (yB m_X10_init) 5 = .ok (.bipush 12, 2) := by decide +kernel
theorem d_X10_init_7 : decode (yB m_X10_init) 7 = .ok (.newarray .int, 2) := by decide +kernel
theorem d_X10_init_9 : decode (yB m_X10_init) 9 = .ok (.putfield 9, 3) := by decide +kernel
theorem d_X10_init_12 : decode (yB m_X10_init) 12 = .ok (.aload_n 0, 1) := by decide +kernel
theorem d_X10_init_13 : decode (yB m_X10_init) 13 = .ok (.bipush 12, 2) := by decide +kernel
theorem d_X10_init_15 : decode (yB m_X10_init) 15 = .ok (.newarray .int, 2) := by decide +kernel
theorem d_X10_init_17 : decode (yB m_X10_init) 17 = .ok (.putfield 15, 3) := by decide +kernel
theorem d_X10_init_20 : decode (yB m_X10_init) 20 = .ok (.aload_n 0, 1) := by decide +kernel
theorem d_X10_init_21 : decode (yB m_X10_init) 21 = .ok (.sipush 144, 3) := by decide +kernel
theorem d_X10_init_24 : decode (yB m_X10_init) 24 = .ok (.newarray .int, 2) := by decide +kernel
theorem d_X10_init_26 : decode (yB m_X10_init) 26 = .ok (.putfield 18, 3) := by decide +kernel
theorem d_X10_init_29 : decode (yB m_X10_init) 29 = .ok (.aload_n 0, 1) := by decide +kernel
theorem d_X10_init_30 : decode (yB m_X10_init) 30 = .ok (.aload_n 1, 1) := by decide +kernel
theorem d_X10_init_31 : decode (yB m_X10_init) 31 = .ok (.putfield 21, 3) := by decide +kernel
theorem d_X10_init_34 : decode (yB m_X10_init) 34 = .ok (.return_, 1) := by decide +kernel
theorem d_X11_init_0 : decode (yB m_X11_init) 0 = .ok (.aload_n 0, 1) := by decide +kernel
theorem d_X11_init_1 : decode (yB m_X11_init) 1 = .ok (.invokespecial 3, 3) := by decide +kernel
theorem d_X11_init_4 : decode (yB m_X11_init) 4 = .ok (.aload_n 0, 1) := by decide +kernel
theorem d_X11_init_5 : decode (yB m_X11_init) 5 = .ok (.sipush 500, 3) := by decide +kernel
theorem d_X11_init_8 : decode (yB m_X11_init) 8 = .ok (.newarray .byte, 2) := by decide +kernel
theorem d_X11_init_10 : decode (yB m_X11_init) 10 = .ok (.putfield 9, 3) := by decide +kernel
theorem d_X11_init_13 : decode (yB m_X11_init) 13 = .ok (.aload_n 0, 1) := by decide +kernel
theorem d_X11_init_14 : decode (yB m_X11_init) 14 = .ok (.new 13, 3) := by decide +kernel
theorem d_X11_init_17 : decode (yB m_X11_init) 17 = .ok (.dup, 1) := by decide +kernel
theorem d_X11_init_18 : decode (yB m_X11_init) 18 = .ok (.aload_n 0, 1) := by decide +kernel
theorem d_X11_init_19 : decode (yB m_X11_init) 19 = .ok (.getfield 9, 3) := by decide +kernel
theorem d_X11_init_22 : decode (yB m_X11_init) 22 = .ok (.invokespecial 15, 3) := by decide +kernel
theorem d_X11_init_25 : decode (yB m_X11_init) 25 = .ok (.putfield 18, 3) := by decide +kernel
theorem d_X11_init_28 : decode (yB m_X11_init) 28 = .ok (.aload_n 0, 1) := by decide +kernel
theorem d_X11_init_29 : decode (yB m_X11_init) 29 = .ok (.new 22, 3) := by decide +kernel
theorem d_X11_init_32 : decode (yB m_X11_init) 32 = .ok (.dup, 1) := by decide +kernel
theorem d_X11_init_33 : decode (yB m_X11_init) 33 = .ok (.invokespecial 24, 3) := by decide +kernel
theorem d_X11_init_36 : decode (yB m_X11_init) 36 = .ok (.putfield 25, 3) := by decide +kernel
theorem d_X11_init_39 : decode (yB m_X11_init) 39 = .ok (.aload_n 0, 1) := by decide +kernel
theorem d_X11_init_40 : decode (yB m_X11_init) 40 = .ok (.new 29, 3) := by decide +kernel
theorem d_X11_init_43 : decode (yB m_X11_init) 43 = .ok (.dup, 1) := by decide +kernel
theorem d_X11_init_44 : decode (yB m_X11_init) 44 = .ok (.aload_n 0, 1) := by decide +kernel
theorem d_X11_init_45 : decode (yB m_X11_init) 45 = .ok (.getfield 18, 3) := by decide +kernel
theorem d_X11_init_48 : decode (yB m_X11_init) 48 = .ok (.invokespecial 31, 3) := by decide +kernel
theorem d_X11_init_51 : decode (yB m_X11_init) 51 = .ok (.putfield 34, 3) := by decide +kernel
theorem d_X11_init_54 : decode (yB m_X11_init) 54 = .ok (.aload_n 0, 1) := by decide +kernel
theorem d_X11_init_55 : decode (yB m_X11_init) 55 = .ok (.new 38, 3) := by decide +kernel
theorem d_X11_init_58 : decode (yB m_X11_init) 58 = .ok (.dup, 1) := by decide +kernel
theorem d_X11_init_59 : decode (yB m_X11_init) 59 = .ok (.invokespecial 40, 3) := by decide +kernel
theorem d_X11_init_62 : decode (yB m_X11_init) 62 = .ok (.putfield 41, 3) := by decide +kernel
theorem d_X11_init_65 : decode (yB m_X11_init) 65 = .ok (.aload_n 0, 1) := by decide +kernel
theorem d_X11_init_66 : decode (yB m_X11_init) 66 = .ok (.new 45, 3) := by decide +kernel
theorem d_X11_init_69 : decode (yB m_X11_init) 69 = .ok (.dup, 1) := by decide +kernel
theorem d_X11_init_70 : decode (yB m_X11_init) 70 = .ok (.aload_n 0, 1) := by decide +kernel
theorem d_X11_init_71 : decode (yB m_X11_init) 71 = .ok (.getfield 18, 3) := by decide +kernel
theorem d_X11_init_74 : decode (yB m_X11_init) 74 = .ok (.invokespecial 47, 3) := by decide +kernel
theorem d_X11_init_77 : decode (yB m_X11_init) 77 = .ok (.putfield 48, 3) := by decide +kernel
theorem d_X11_init_80 : decode (yB m_X11_init) 80 = .ok (.aload_n 0, 1) := by decide +kernel
theorem d_X11_init_81 : decode (yB m_X11_init) 81 = .ok (.new 52, 3) := by decide +kernel
theorem d_X11_init_84 : decode (yB m_X11_init) 84 = .ok (.dup, 1) := by decide +kernel
theorem d_X11_init_85 : decode (yB m_X11_init) 85 = .ok (.invokespecial 54, 3) := by decide +kernel
theorem d_X11_init_88 : decode (yB m_X11_init) 88 = .ok (.putfield 55, 3) := by decide +kernel
theorem d_X11_init_91 : decode (yB m_X11_init) 91 = .ok (.aload_n 0, 1) := by decide +kernel
theorem d_X11_init_92 : decode (yB m_X11_init) 92 = .ok (.new 52, 3) := by decide +kernel
theorem d_X11_init_95 : decode (yB m_X11_init) 95 = .ok (.dup, 1) := by decide +kernel
theorem d_X11_init_96 : decode (yB m_X11_init) 96 = .ok (.invokespecial 54, 3) := by decide +kernel
theorem d_X11_init_99 : decode (yB m_X11_init) 99 = .ok (.putfield 59, 3) := by decide +kernel
theorem d_X11_init_102 : decode (yB m_X11_init) 102 = .ok (.aload_n 0, 1) := by decide +kernel
theorem d_X11_init_103 : decode (yB m_X11_init) 103 = .ok (.new 52, 3) := by decide +kernel
theorem d_X11_init_106 : decode (yB m_X11_init) 106 = .ok (.dup, 1) := by decide +kernel
theorem d_X11_init_107 : decode (yB m_X11_init) 107 = .ok (.invokespecial 54, 3) := by decide +kernel
theorem d_X11_init_110 : decode (yB m_X11_init) 110 = .ok (.putfield 62, 3) := by decide +kernel
theorem d_X11_init_113 : decode (yB m_X11_init) 113 = .ok (.aload_n 0, 1) := by decide +kernel
theorem d_X11_init_114 : decode (yB m_X11_init) 114 = .ok (.new 52, 3) := by decide +kernel
theorem d_X11_init_117 : decode (yB m_X11_init) 117 = .ok (.dup, 1) := by decide +kernel
theorem d_X11_init_118 : decode (yB m_X11_init) 118 = .ok (.invokespecial 54, 3) := by decide +kernel
theorem d_X11_init_121 : decode (yB m_X11_init) 121 = .ok (.putfield 65, 3) := by decide +kernel
theorem d_X11_init_124 : decode (yB m_X11_init) 124 = .ok (.aload_n 0, 1) := by decide +kernel
theorem d_X11_init_125 : decode (yB m_X11_init) 125 = .ok (.new 68, 3) := by decide +kernel
theorem d_X11_init_128 : decode (yB m_X11_init) 128 = .ok (.dup, 1) := by decide +kernel
theorem d_X11_init_129 : decode (yB m_X11_init) 129 = .ok (.aload_n 0, 1) := by decide +kernel
theorem d_X11_init_130 : decode (yB m_X11_init) 130 = .ok (.getfield 41, 3) := by decide +kernel
theorem d_X11_init_133 : decode (yB m_X11_init) 133 = .ok (.invokespecial 70, 3) := by decide +kernel
theorem d_X11_init_136 : decode (yB m_X11_init) 136 = .ok (.putfield 73, 3) := by decide +kernel
theorem d_X11_init_139 : decode (yB m_X11_init) 139 = .ok (.aload_n 0, 1) := by decide +kernel
theorem d_X11_init_140 : decode (yB m_X11_init) 140 = .ok (.new 77, 3) := by decide +kernel
theorem d_X11_init_143 : decode (yB m_X11_init) 143 = .ok (.dup, 1) := by decide +kernel
theorem d_X11_init_144 : decode (yB m_X11_init) 144 = .ok (.new 68, 3) := by decide +kernel
theorem d_X11_init_147 : decode (yB m_X11_init) 147 = .ok (.dup, 1) := by decide +kernel
theorem d_X11_init_148 : decode (yB m_X11_init) 148 = .ok (.aload_n 0, 1) := by decide +kernel
theorem d_X11_init_149 : decode (yB m_X11_init) 149 = .ok (.getfield 41, 3) := by decide +kernel
theorem d_X11_init_152 : decode (yB m_X11_init) 152 = .ok (.invokespecial 70, 3) := by decide +kernel
theorem d_X11_init_155 : decode (yB m_X11_init) 155 = .ok (.invokespecial 79, 3) := by decide +kernel
theorem d_X11_init_158 : decode (yB m_X11_init) 158 = .ok (.putfield 82, 3) := by decide +kernel
theorem d_X11_init_161 : decode (yB m_X11_init) 161 = .ok (.aload_n 0, 1) := by decide +kernel
theorem d_X11_init_162 : decode (yB m_X11_init) 162 = .ok (.new 86, 3) := by decide +kernel
theorem d_X11_init_165 : decode (yB m_X11_init) 165 = .ok (.dup, 1) := by decide +kernel
theorem d_X11_init_166 : decode (yB m_X11_init) 166 = .ok (.invokespecial 88, 3) := by decide +kernel
theorem d_X11_init_169 : decode (yB m_X11_init) 169 = .ok (.putfield 89, 3) := by decide +kernel
theorem d_X11_init_172 : decode (yB m_X11_init) 172 = .ok (.aload_n 0, 1) := by decide +kernel
theorem d_X11_init_173 : decode (yB m_X11_init) 173 = .ok (.new 93, 3) := by decide +kernel
theorem d_X11_init_176 : decode (yB m_X11_init) 176 = .ok (.dup, 1) := by decide +kernel
theorem d_X11_init_177 : decode (yB m_X11_init) 177 = .ok (.invokespecial 95, 3) := by decide +kernel
theorem d_X11_init_180 : decode (yB m_X11_init) 180 = .ok (.putfield 96, 3) := by decide +kernel
theorem d_X11_init_183 : decode (yB m_X11_init) 183 = .ok (.aload_n 0, 1) := by decide +kernel
theorem d_X11_init_184 : decode (yB m_X11_init) 184 = .ok (.new 100, 3) := by decide +kernel
theorem d_X11_init_187 : decode (yB m_X11_init) 187 = .ok (.dup, 1) := by decide +kernel
theorem d_X11_init_188 : decode (yB m_X11_init) 188 = .ok (.invokespecial 102, 3) := by decide +kernel
theorem d_X11_init_191 : decode (yB m_X11_init) 191 = .ok (.putfield 103, 3) := by decide +kernel
theorem d_X11_init_194 : decode (yB m_X11_init) 194 = .ok (.aload_n 0, 1) := by decide +kernel
theorem d_X11_init_195 : decode (yB m_X11_init) 195 = .ok (.bipush 34, 2) := by decide +kernel
theorem d_X11_init_197 : decode (yB m_X11_init) 197 = .ok (.newarray .int, 2) := by decide +kernel
theorem d_X11_init_199 : decode (yB m_X11_init) 199 = .ok (.putfield 107, 3) := by decide +kernel
theorem d_X11_init_202 : decode (yB m_X11_init) 202 = .ok (.aload_n 0, 1) := by decide +kernel
theorem d_X11_init_203 : decode (yB m_X11_init) 203 = .ok (.getfield 41, 3) := by decide +kernel
theorem d_X11_init_206 : decode (yB m_X11_init) 206 = .ok (.iconst 0, 1) := by decide +kernel
theorem d_X11_init_207 : decode (yB m_X11_init) 207 = .ok (.invokevirtual 111, 3) := by decide +kernel
theorem d_X11_init_210 : decode (yB m_X11_init) 210 = .ok (.aload_n 0, 1) := by decide +kernel
theorem d_X11_init_211 : decode (yB m_X11_init) 211 = .ok (.getfield 107, 3) := by decide +kernel
theorem d_X11_init_214 : decode (yB m_X11_init) 214 = .ok (.ldc 115, 2) := by decide +kernel
theorem d_X11_init_216 : decode (yB m_X11_init) 216 = .ok (.invokestatic 116, 3) := by decide +kernel
theorem d_X11_init_219 : decode (yB m_X11_init) 219 = .ok (.return_, 1) := by decide +kernel
theorem d_X12_init_0 : decode (yB m_X12_init) 0 = .ok (.aload_n 0, 1) := by decide +kernel
theorem d_X12_init_1 : decode (yB m_X12_init) 1 = .ok (.invokespecial 1, 3) := by decide +kernel
theorem d_X12_init_4 : decode (yB m_X12_init) 4 = .ok (.aload_n 0, 1) := by decide +kernel
theorem d_X12_init_5 : decode (yB m_X12_init) 5 = .ok (.iconst (-1), 1) := by decide +kernel
theorem d_X12_init_6 : decode (yB m_X12_init) 6 = .ok (.putfield 9, 3) := by decide +kernel
theorem d_X12_init_9 : decode (yB m_X12_init) 9 = .ok (.aload_n 0, 1) := by decide +kernel
theorem d_X12_init_10 : decode (yB m_X12_init) 10 = .ok (.sipush 500, 3) := by decide +kernel
theorem d_X12_init_13 : decode (yB m_X12_init) 13 = .ok (.newarray .int, 2) := by decide +kernel
theorem d_X12_init_15 : decode (yB m_X12_init) 15 = .ok (.putfield 13, 3) := by decide +kernel
theorem d_X12_init_18 : decode (yB m_X12_init) 18 = .ok (.aload_n 0, 1) := by decide +kernel
theorem d_X12_init_19 : decode (yB m_X12_init) 19 = .ok (.bipush 6, 2) := by decide +kernel
theorem d_X12_init_21 : decode (yB m_X12_init) 21 = .ok (.putfield 17, 3) := by decide +kernel
theorem d_X12_init_24 : decode (yB m_X12_init) 24 = .ok (.aload_n 0, 1) := by decide +kernel
theorem d_X12_init_25 : decode (yB m_X12_init) 25 = .ok (.iconst 5, 1) := by decide +kernel
theorem d_X12_init_26 : decode (yB m_X12_init) 26 = .ok (.putfield 20, 3) := by decide +kernel
theorem d_X12_init_29 : decode (yB m_X12_init) 29 = .ok (.aload_n 0, 1) := by decide +kernel
theorem d_X12_init_30 : decode (yB m_X12_init) 30 = .ok (.bipush 12, 2) := by decide +kernel
theorem d_X12_init_32 : decode (yB m_X12_init) 32 = .ok (.newarray .int, 2) := by decide +kernel
theorem d_X12_init_34 : decode (yB m_X12_init) 34 = .ok (.putfield 23, 3) := by decide +kernel
theorem d_X12_init_37 : decode (yB m_X12_init) 37 = .ok (.aload_n 0, 1) := by decide +kernel
theorem d_X12_init_38 : decode (yB m_X12_init) 38 = .ok (.bipush 12, 2) := by decide +kernel
theorem d_X12_init_40 : decode (yB m_X12_init) 40 = .ok (.newarray .int, 2) := by decide +kernel
theorem d_X12_init_42 : decode (yB m_X12_init) 42 = .ok (.putfield 26, 3) := by decide +kernel
theorem d_X12_init_45 : decode (yB m_X12_init) 45 = .ok (.aload_n 0, 1) := by decide +kernel
theorem d_X12_init_46 : decode (yB m_X12_init) 46 = .ok (.bipush 12, 2) := by decide +kernel
theorem d_X12_init_48 : decode (yB m_X12_init) 48 = .ok (.newarray .int, 2) := by decide +kernel
theorem d_X12_init_50 : decode (yB m_X12_init) 50 = .ok (.putfield 29, 3) := by decide +kernel
theorem d_X12_init_53 : decode (yB m_X12_init) 53 = .ok (.aload_n 0, 1) := by decide +kernel
theorem d_X12_init_54 : decode (yB m_X12_init) 54 = .ok (.bipush 12, 2) := by decide +kernel
theorem d_X12_init_56 : decode (yB m_X12_init) 56 = .ok (.newarray .int, 2) := by decide +kernel
theorem d_X12_init_58 : decode (yB m_X12_init) 58 = .ok (.putfield 32, 3) := by decide +kernel
theorem d_X12_init_61 : decode (yB m_X12_init) 61 = .ok (.aload_n 0, 1) := by decide +kernel
theorem d_X12_init_62 : decode (yB m_X12_init) 62 = .ok (.bipush 8, 2) := by decide +kernel
theorem d_X12_init_64 : decode (yB m_X12_init) 64 = .ok (.newarray .int, 2) := by decide +kernel
theorem d_X12_init_66 : decode (yB m_X12_init) 66 = .ok (.putfield 35, 3) := by decide +kernel
theorem d_X12_init_69 : decode (yB m_X12_init) 69 = .ok (.aload_n 0, 1) := by decide +kernel
theorem d_X12_init_70 : decode (yB m_X12_init) 70 = .ok (.bipush 8, 2) := by decide +kernel
theorem d_X12_init_72 : decode (yB m_X12_init) 72 = .ok (.newarray .int, 2) := by decide +kernel
theorem d_X12_init_74 : decode (yB m_X12_init) 74 = .ok (.putfield 38, 3) := by decide +kernel
theorem d_X12_init_77 : decode (yB m_X12_init) 77 = .ok (.aload_n 0, 1) := by decide +kernel
theorem d_X12_init_78 : decode (yB m_X12_init) 78 = .ok (.bipush 8, 2) := by decide +kernel
theorem d_X12_init_80 : decode (yB m_X12_init) 80 = .ok (.bipush 6, 2) := by decide +kernel
theorem d_X12_init_82 : decode (yB m_X12_init) 82 = .ok (.multianewarray 41 2, 4) := by decide +kernel
theorem d_X12_init_86 : decode (yB m_X12_init) 86 = .ok (.putfield 43, 3) := by decide +kernel
theorem d_X12_init_89 : decode (yB m_X12_init) 89 = .ok (.aload_n 0, 1) := by decide +kernel
theorem d_X12_init_90 : decode (yB m_X12_init) 90 = .ok (.bipush 8, 2) := by decide +kernel
theorem d_X12_init_92 : decode (yB m_X12_init) 92 = .ok (.bipush 6, 2) := by decide +kernel
theorem d_X12_init_94 : decode (yB m_X12_init) 94 = .ok (.multianewarray 41 2, 4) := by decide +kernel
theorem d_X12_init_98 : decode (yB m_X12_init) 98 = .ok (.putfield 46, 3) := by decide +kernel
theorem d_X12_init_101 : decode (yB m_X12_init) 101 = .ok (.aload_n 0, 1) := by decide +kernel
theorem d_X12_init_102 : decode (yB m_X12_init) 102 = .ok (.iconst 1, 1) := by decide +kernel
theorem d_X12_init_103 : decode (yB m_X12_init) 103 = .ok (.putfield 49, 3) := by decide +kernel
theorem d_X12_init_106 : decode (yB m_X12_init) 106 = .ok (.aload_n 0, 1) := by decide +kernel
theorem d_X12_init_107 : decode (yB m_X12_init) 107 = .ok (.sipush 500, 3) := by decide +kernel
theorem d_X12_init_110 : decode (yB m_X12_init) 110 = .ok (.newarray .int, 2) := by decide +kernel
theorem d_X12_init_112 : decode (yB m_X12_init) 112 = .ok (.putfield 52, 3) := by decide +kernel
theorem d_X12_init_115 : decode (yB m_X12_init) 115 = .ok (.aload_n 0, 1) := by decide +kernel
theorem d_X12_init_116 : decode (yB m_X12_init) 116 = .ok (.bipush 30, 2) := by decide +kernel
theorem d_X12_init_118 : decode (yB m_X12_init) 118 = .ok (.sipush 501, 3) := by decide +kernel
theorem d_X12_init_121 : decode (yB m_X12_init) 121 = .ok (.multianewarray 41 2, 4) := by decide +kernel
theorem d_X12_init_125 : decode (yB m_X12_init) 125 = .ok (.putfield 55, 3) := by decide +kernel
theorem d_X12_init_128 : decode (yB m_X12_init) 128 = .ok (.aload_n 0, 1) := by decide +kernel
theorem d_X12_init_129 : decode (yB m_X12_init) 129 = .ok (.bipush 30, 2) := by decide +kernel
theorem d_X12_init_131 : decode (yB m_X12_init) 131 = .ok (.newarray .int, 2) := by decide +kernel
theorem d_X12_init_133 : decode (yB m_X12_init) 133 = .ok (.putfield 58, 3) := by decide +kernel
theorem d_X12_init_136 : decode (yB m_X12_init) 136 = .ok (.aload_n 0, 1) := by decide +kernel
theorem d_X12_init_137 : decode (yB m_X12_init) 137 = .ok (.sipush 501, 3) := by decide +kernel
theorem d_X12_init_140 : decode (yB m_X12_init) 140 = .ok (.newarray .int, 2) := by decide +kernel
theorem d_X12_init_142 : decode (yB m_X12_init) 142 = .ok (.putfield 61, 3) := by decide +kernel
theorem d_X12_init_145 : decode (yB m_X12_init) 145 = .ok (.aload_n 0, 1) := by decide +kernel
theorem d_X12_init_146 : decode (yB m_X12_init) 146 = .ok (.bipush 6, 2) := by decide +kernel
theorem d_X12_init_148 : decode (yB m_X12_init) 148 = .ok (.iconst 2, 1) := by decide +kernel
theorem d_X12_init_149 : decode (yB m_X12_init) 149 = .ok (.multianewarray 41 2, 4) := by decide +kernel
theorem d_X12_init_153 : decode (yB m_X12_init) 153 = .ok (.putfield 64, 3) := by decide +kernel
theorem d_X12_init_156 : decode (yB m_X12_init) 156 = .ok (.aload_n 0, 1) := by decide +kernel
theorem d_X12_init_157 : decode (yB m_X12_init) 157 = .ok (.bipush 8, 2) := by decide +kernel
theorem d_X12_init_159 : decode (yB m_X12_init) 159 = .ok (.iconst 3, 1) := by decide +kernel
theorem d_X12_init_160 : decode (yB m_X12_init) 160 = .ok (.multianewarray 41 2, 4) := by decide +kernel
theorem d_X12_init_164 : decode (yB m_X12_init) 164 = .ok (.putfield 67, 3) := by decide +kernel
theorem d_X12_init_167 : decode (yB m_X12_init) 167 = .ok (.aload_n 0, 1) := by decide +kernel
theorem d_X12_init_168 : decode (yB m_X12_init) 168 = .ok (.iconst 3, 1) := by decide +kernel
theorem d_X12_init_169 : decode (yB m_X12_init) 169 = .ok (.bipush 64, 2) := by decide +kernel
theorem d_X12_init_171 : decode (yB m_X12_init) 171 = .ok (.multianewarray 41 2, 4) := by decide +kernel
theorem d_X12_init_175 : decode (yB m_X12_init) 175 = .ok (.putfield 70, 3) := by decide +kernel
theorem d_X12_init_178 : decode (yB m_X12_init) 178 = .ok (.aload_n 0, 1) := by decide +kernel
theorem d_X12_init_179 : decode (yB m_X12_init) 179 = .ok (.bipush 12, 2) := by decide +kernel
theorem d_X12_init_181 : decode (yB m_X12_init) 181 = .ok (.bipush 12, 2) := by decide +kernel
theorem d_X12_init_183 : decode (yB m_X12_init) 183 = .ok (.multianewarray 73 2, 4) := by decide +kernel
theorem d_X12_init_187 : decode (yB m_X12_init) 187 = .ok (.putfield 75, 3) := by decide +kernel
theorem d_X12_init_190 : decode (yB m_X12_init) 190 = .ok (.aload_n 0, 1) := by decide +kernel
theorem d_X12_init_191 : decode (yB m_X12_init) 191 = .ok (.bipush 12, 2) := by decide +kernel
theorem d_X12_init_193 : decode (yB m_X12_init) 193 = .ok (.newarray .int, 2) := by decide +kernel
theorem d_X12_init_195 : decode (yB m_X12_init) 195 = .ok (.putfield 78, 3) := by decide +kernel
theorem d_X12_init_198 : decode (yB m_X12_init) 198 = .ok (.aload_n 0, 1) := by decide +kernel
theorem d_X12_init_199 : decode (yB m_X12_init) 199 = .ok (.bipush 30, 2) := by decide +kernel
theorem d_X12_init_201 : decode (yB m_X12_init) 201 = .ok (.newarray .int, 2) := by decide +kernel
theorem d_X12_init_203 : decode (yB m_X12_init) 203 = .ok (.putfield 81, 3) := by decide +kernel
theorem d_X12_init_206 : decode (yB m_X12_init) 206 = .ok (.aload_n 0, 1) := by decide +kernel
theorem d_X12_init_207 : decode (yB m_X12_init) 207 = .ok (.bipush 30, 2) := by decide +kernel
theorem d_X12_init_209 : decode (yB m_X12_init) 209 = .ok (.newarray .int, 2) := by decide +kernel
theorem d_X12_init_211 : decode (yB m_X12_init) 211 = .ok (.putfield 84, 3) := by decide +kernel
theorem d_X12_init_214 : decode (yB m_X12_init) 214 = .ok (.aload_n 0, 1) := by decide +kernel
theorem d_X12_init_215 : decode (yB m_X12_init) 215 = .ok (.bipush 30, 2) := by decide +kernel
theorem d_X12_init_217 : decode (yB m_X12_init) 217 = .ok (.newarray .int, 2) := by decide +kernel
theorem d_X12_init_219 : decode (yB m_X12_init) 219 = .ok (.putfield 87, 3) := by decide +kernel
theorem d_X12_init_222 : decode (yB m_X12_init) 222 = .ok (.aload_n 0, 1) := by decide +kernel
theorem d_X12_init_223 : decode (yB m_X12_init) 223 = .ok (.bipush 30, 2) := by decide +kernel
theorem d_X12_init_225 : decode (yB m_X12_init) 225 = .ok (.newarray .boolean, 2) := by decide +kernel
theorem d_X12_init_227 : decode (yB m_X12_init) 227 = .ok (.putfield 90, 3) := by decide +kernel
theorem d_X12_init_230 : decode (yB m_X12_init) 230 = .ok (.aload_n 0, 1) := by decide +kernel
theorem d_X12_init_231 : decode (yB m_X12_init) 231 = .ok (.sipush 4096, 3) := by decide +kernel
theorem d_X12_init_234 : decode (yB m_X12_init) 234 = .ok (.newarray .int, 2) := by decide +kernel
theorem d_X12_init_236 : decode (yB m_X12_init) 236 = .ok (.putfield 94, 3) := by decide +kernel
theorem d_X12_init_239 : decode (yB m_X12_init) 239 = .ok (.aload_n 0, 1) := by decide +kernel
theorem d_X12_init_240 : decode (yB m_X12_init) 240 = .ok (.sipush 4096, 3) := by decide +kernel
theorem d_X12_init_243 : decode (yB m_X12_init) 243 = .ok (.newarray .boolean, 2) := by decide +kernel
theorem d_X12_init_245 : decode (yB m_X12_init) 245 = .ok (.putfield 97, 3) := by decide +kernel
theorem d_X12_init_248 : decode (yB m_X12_init) 248 = .ok (.aload_n 0, 1) := by decide +kernel
theorem d_X12_init_249 : decode (yB m_X12_init) 249 = .ok (.bipush 64, 2) := by decide +kernel
theorem d_X12_init_251 : decode (yB m_X12_init) 251 = .ok (.newarray .long, 2) := by decide +kernel
theorem d_X12_init_253 : decode (yB m_X12_init) 253 = .ok (.putfield 100, 3) := by decide +kernel
theorem d_X12_init_256 : decode (yB m_X12_init) 256 = .ok (.aload_n 0, 1) := by decide +kernel
theorem d_X12_init_257 : decode (yB m_X12_init) 257 = .ok (.sipush 4096, 3) := by decide +kernel
theorem d_X12_init_260 : decode (yB m_X12_init) 260 = .ok (.newarray .int, 2) := by decide +kernel
theorem d_X12_init_262 : decode (yB m_X12_init) 262 = .ok (.putfield 104, 3) := by decide +kernel
theorem d_X12_init_265 : decode (yB m_X12_init) 265 = .ok (.aload_n 0, 1) := by decide +kernel
theorem d_X12_init_266 : decode (yB m_X12_init) 266 = .ok (.bipush 8, 2) := by decide +kernel
theorem d_X12_init_268 : decode (yB m_X12_init) 268 = .ok (.newarray .int, 2) := by decide +kernel
theorem d_X12_init_270 : decode (yB m_X12_init) 270 = .ok (.putfield 107, 3) := by decide +kernel
theorem d_X12_init_273 : decode (yB m_X12_init) 273 = .ok (.aload_n 0, 1) := by decide +kernel
theorem d_X12_init_274 : decode (yB m_X12_init) 274 = .ok (.bipush 8, 2) := by decide +kernel
theorem d_X12_init_276 : decode (yB m_X12_init) 276 = .ok (.newarray .int, 2) := by decide +kernel
theorem d_X12_init_278 : decode (yB m_X12_init) 278 = .ok (.putfield 110, 3) := by decide +kernel
theorem d_X12_init_281 : decode (yB m_X12_init) 281 = .ok (.return_, 1) := by decide +kernel
def Mc_0 : zM := (([], fun _ _ => none, 0), (fun _ _ => 0, fun _ _ => 0))
theorem zc_M0 : zC0 Mc_0 0 := ⟨rfl, rfl, Nat.zero_le _⟩
def Mc_1 : zM := zAl Mc_0 (18, 19)
theorem zc_M1 : zC0 Mc_1 1 := zc_M0.al rfl
def Mc_2 : zM := zAl Mc_1 (2, 500)
theorem zc_M2 : zC0 Mc_2 2 := zc_M1.al rfl
def Mc_3 : zM := sR Mc_2 0 0 1
theorem zc_M3 : zC0 Mc_3 2 := zc_M2.wR
def Mc_4 : zM := zAl Mc_3 (15, 5)
theorem zc_M4 : zC0 Mc_4 3 := zc_M3.al rfl
def Mc_5 : zM := (Mc_4.1, sI Mc_4.2 2 4 (-1 : Int32))
theorem zc_M5 : zC0 Mc_5 3 := zc_M4.wD
def Mc_6 : zM := sR Mc_5 2 0 1
theorem zc_M6 : zC0 Mc_6 3 := zc_M5.wR
theorem ct_1 {X : zX} {d : Nat} (hst : (zl X).stackTraces = false) (hd : 2 ≤ d) : Sd X m_X8_init d [.ref 2, .ref 1] Mc_4 (some (.inl none, Mc_6)) := by
  obtain ⟨d, rfl⟩ : ∃ e, d = e + 1 := ⟨d - 1, by omega⟩
  refine z_body ck_X8_init rfl (Nat.le_of_ble_eq_true rfl) rfl hst ?_
  show Rn X m_X8_init (d + 1) 0 [(0, .ref 2), (1, .ref 1)] [] Mc_4 _
  refine r_aload_n 0 d_X8_init_0 rfl rfl ?_
  refine r_objInit ml_X8_3 oi_i oi_c (by omega) (Nat.le_of_ble_eq_true rfl) d_X8_init_1 ?_
  refine r_aload_n 0 d_X8_init_4 rfl rfl ?_
  refine r_iconst (-1 : Int32) d_X8_init_5 rfl ?_
  refine rc_putI (ci := 8) zc_M4 (Nat.le_of_ble_eq_true rfl) rfl (M2 := Mc_5) rfl p_X8_9 rfl (by decide) d_X8_init_6 ?_
  refine r_aload_n 0 d_X8_init_9 rfl rfl ?_
  refine r_aload_n 1 d_X8_init_10 rfl rfl ?_
  refine r_nonnull 20 d_X8_init_11 (by decide) ?_
  refine r_aload_n 1 d_X8_init_20 rfl rfl ?_
  refine rc_putF (ci := 8) zc_M5 (Nat.le_of_ble_eq_true rfl) rfl (M2 := Mc_6) rfl p_X8_15 rfl (by simp) rfl d_X8_init_21 ?_
  exact r_vret rfl d_X8_init_24
def Mc_7 : zM := sR Mc_6 0 1 2
theorem zc_M7 : zC0 Mc_7 3 := zc_M6.wR
def Mc_8 : zM := zAl Mc_7 (7, 12)
theorem zc_M8 : zC0 Mc_8 4 := zc_M7.al rfl
def Mc_9 : zM := (Mc_8.1, sI Mc_8.2 3 0 (6 : Int32))
theorem zc_M9 : zC0 Mc_9 4 := zc_M8.wD
def Mc_10 : zM := (Mc_9.1, sI Mc_9.2 3 1 (5 : Int32))
theorem zc_M10 : zC0 Mc_10 4 := zc_M9.wD
def Mc_11 : zM := zAl Mc_10 (0, 12)
theorem zc_M11 : zC0 Mc_11 5 := zc_M10.al rfl
def Mc_12 : zM := sR Mc_11 3 4 4
theorem zc_M12 : zC0 Mc_12 5 := zc_M11.wR
def Mc_13 : zM := zAl Mc_12 (0, 12)
theorem zc_M13 : zC0 Mc_13 6 := zc_M12.al rfl
def Mc_14 : zM := sR Mc_13 3 5 5
theorem zc_M14 : zC0 Mc_14 6 := zc_M13.wR
def Mc_15 : zM := zAl Mc_14 (0, 48)
theorem zc_M15 : zC0 Mc_15 7 := zc_M14.al rfl
def Mc_16 : zM := sR Mc_15 3 6 6
theorem zc_M16 : zC0 Mc_16 7 := zc_M15.wR
def Mc_17 : zM := zAl Mc_16 (0, 8)
theorem zc_M17 : zC0 Mc_17 8 := zc_M16.al rfl
def Mc_18 : zM := sR Mc_17 3 7 7
theorem zc_M18 : zC0 Mc_18 8 := zc_M17.wR
def Mc_19 : zM := zAl Mc_18 (0, 30)
theorem zc_M19 : zC0 Mc_19 9 := zc_M18.al rfl
def Mc_20 : zM := sR Mc_19 3 8 8
theorem zc_M20 : zC0 Mc_20 9 := zc_M19.wR
def Mc_21 : zM := zAl Mc_20 (0, 30)
theorem zc_M21 : zC0 Mc_21 10 := zc_M20.al rfl
def Mc_22 : zM := sR Mc_21 3 9 9
theorem zc_M22 : zC0 Mc_22 10 := zc_M21.wR
def Mc_23 : zM := zAl Mc_22 (0, 30)
theorem zc_M23 : zC0 Mc_23 11 := zc_M22.al rfl
def Mc_24 : zM := sR Mc_23 3 10 10
theorem zc_M24 : zC0 Mc_24 11 := zc_M23.wR
theorem ct_2 {X : zX} {d : Nat} (hst : (zl X).stackTraces = false) (hd : 2 ≤ d) : Sd X m_X0_init d [.ref 3] Mc_8 (some (.inl none, Mc_24)) := by
  obtain ⟨d, rfl⟩ : ∃ e, d = e + 1 := ⟨d - 1, by omega⟩
  refine z_body ck_X0_init rfl (Nat.le_of_ble_eq_true rfl) rfl hst ?_
  show Rn X m_X0_init (d + 1) 0 [(0, .ref 3)] [] Mc_8 _
  refine r_aload_n 0 d_X0_init_0 rfl rfl ?_
  refine r_objInit ml_X0_3 oi_i oi_c (by omega) (Nat.le_of_ble_eq_true rfl) d_X0_init_1 ?_
  refine r_aload_n 0 d_X0_init_4 rfl rfl ?_
  refine r_bipush (6 : Int32) d_X0_init_5 rfl ?_
  refine rc_putI (ci := 0) zc_M8 (Nat.le_of_ble_eq_true rfl) rfl (M2 := Mc_9) rfl p_X0_9 rfl (by decide) d_X0_init_7 ?_
  refine r_aload_n 0 d_X0_init_10 rfl rfl ?_
  refine r_iconst (5 : Int32) d_X0_init_11 rfl ?_
  refine rc_putI (ci := 0) zc_M9 (Nat.le_of_ble_eq_true rfl) rfl (M2 := Mc_10) rfl p_X0_15 rfl (by decide) d_X0_init_12 ?_
  refine r_aload_n 0 d_X0_init_15 rfl rfl ?_
  refine r_bipush (12 : Int32) d_X0_init_16 rfl ?_
  refine rc_newa (t := 0) (ty := .int) zc_M10 zc_M24 (i := 4) (Nat.le_of_ble_eq_true rfl) rfl (M2 := Mc_11) rfl rfl (by decide) ac_int (by decide) rfl (Nat.le_of_ble_eq_true rfl) d_X0_init_18 ?_
  refine rc_putF (ci := 0) zc_M11 (Nat.le_of_ble_eq_true rfl) rfl (M2 := Mc_12) rfl p_X0_18 rfl (by simp) rfl d_X0_init_20 ?_
  refine r_aload_n 0 d_X0_init_23 rfl rfl ?_
  refine r_bipush (12 : Int32) d_X0_init_24 rfl ?_
  refine rc_newa (t := 0) (ty := .int) zc_M12 zc_M24 (i := 5) (Nat.le_of_ble_eq_true rfl) rfl (M2 := Mc_13) rfl rfl (by decide) ac_int (by decide) rfl (Nat.le_of_ble_eq_true rfl) d_X0_init_26 ?_
  refine rc_putF (ci := 0) zc_M13 (Nat.le_of_ble_eq_true rfl) rfl (M2 := Mc_14) rfl p_X0_22 rfl (by simp) rfl d_X0_init_28 ?_
  refine r_aload_n 0 d_X0_init_31 rfl rfl ?_
  refine r_bipush (48 : Int32) d_X0_init_32 rfl ?_
  refine rc_newa (t := 0) (ty := .int) zc_M14 zc_M24 (i := 6) (Nat.le_of_ble_eq_true rfl) rfl (M2 := Mc_15) rfl rfl (by decide) ac_int (by decide) rfl (Nat.le_of_ble_eq_true rfl) d_X0_init_34 ?_
  refine rc_putF (ci := 0) zc_M15 (Nat.le_of_ble_eq_true rfl) rfl (M2 := Mc_16) rfl p_X0_25 rfl (by simp) rfl d_X0_init_36 ?_
  refine r_aload_n 0 d_X0_init_39 rfl rfl ?_
  refine r_bipush (8 : Int32) d_X0_init_40 rfl ?_
  refine rc_newa (t := 0) (ty := .int) zc_M16 zc_M24 (i := 7) (Nat.le_of_ble_eq_true rfl) rfl (M2 := Mc_17) rfl rfl (by decide) ac_int (by decide) rfl (Nat.le_of_ble_eq_true rfl) d_X0_init_42 ?_
  refine rc_putF (ci := 0) zc_M17 (Nat.le_of_ble_eq_true rfl) rfl (M2 := Mc_18) rfl p_X0_28 rfl (by simp) rfl d_X0_init_44 ?_
  refine r_aload_n 0 d_X0_init_47 rfl rfl ?_
  refine r_bipush (30 : Int32) d_X0_init_48 rfl ?_
  refine rc_newa (t := 0) (ty := .int) zc_M18 zc_M24 (i := 8) (Nat.le_of_ble_eq_true rfl) rfl (M2 := Mc_19) rfl rfl (by decide) ac_int (by decide) rfl (Nat.le_of_ble_eq_true rfl) d_X0_init_50 ?_
  refine rc_putF (ci := 0) zc_M19 (Nat.le_of_ble_eq_true rfl) rfl (M2 := Mc_20) rfl p_X0_31 rfl (by simp) rfl d_X0_init_52 ?_
  refine r_aload_n 0 d_X0_init_55 rfl rfl ?_
  refine r_bipush (30 : Int32) d_X0_init_56 rfl ?_
  refine rc_newa (t := 0) (ty := .int) zc_M20 zc_M24 (i := 9) (Nat.le_of_ble_eq_true rfl) rfl (M2 := Mc_21) rfl rfl (by decide) ac_int (by decide) rfl (Nat.le_of_ble_eq_true rfl) d_X0_init_58 ?_
  refine rc_putF (ci := 0) zc_M21 (Nat.le_of_ble_eq_true rfl) rfl (M2 := Mc_22) rfl p_X0_34 rfl (by simp) rfl d_X0_init_60 ?_
  refine r_aload_n 0 d_X0_init_63 rfl rfl ?_
  refine r_bipush (30 : Int32) d_X0_init_64 rfl ?_
  refine rc_newa (t := 0) (ty := .int) zc_M22 zc_M24 (i := 10) (Nat.le_of_ble_eq_true rfl) rfl (M2 := Mc_23) rfl rfl (by decide) ac_int (by decide) rfl (Nat.le_of_ble_eq_true rfl) d_X0_init_66 ?_
  refine rc_putF (ci := 0) zc_M23 (Nat.le_of_ble_eq_true rfl) rfl (M2 := Mc_24) rfl p_X0_37 rfl (by simp) rfl d_X0_init_68 ?_
  exact r_vret rfl d_X0_init_71
def Mc_25 : zM := sR Mc_24 0 2 3
theorem zc_M25 : zC0 Mc_25 11 := zc_M24.wR
def Mc_26 : zM := zAl Mc_25 (8, 2)
theorem zc_M26 : zC0 Mc_26 12 := zc_M25.al rfl
def Mc_27 : zM := zAl Mc_26 (7, 12)
theorem zc_M27 : zC0 Mc_27 13 := zc_M26.al rfl
def Mc_28 : zM := (Mc_27.1, sI Mc_27.2 12 0 (6 : Int32))
theorem zc_M28 : zC0 Mc_28 13 := zc_M27.wD
def Mc_29 : zM := (Mc_28.1, sI Mc_28.2 12 1 (5 : Int32))
theorem zc_M29 : zC0 Mc_29 13 := zc_M28.wD
def Mc_30 : zM := zAl Mc_29 (0, 12)
theorem zc_M30 : zC0 Mc_30 14 := zc_M29.al rfl
def Mc_31 : zM := sR Mc_30 12 4 13
theorem zc_M31 : zC0 Mc_31 14 := zc_M30.wR
def Mc_32 : zM := zAl Mc_31 (0, 12)
theorem zc_M32 : zC0 Mc_32 15 := zc_M31.al rfl
def Mc_33 : zM := sR Mc_32 12 5 14
theorem zc_M33 : zC0 Mc_33 15 := zc_M32.wR
def Mc_34 : zM := zAl Mc_33 (0, 48)
theorem zc_M34 : zC0 Mc_34 16 := zc_M33.al rfl
def Mc_35 : zM := sR Mc_34 12 6 15
theorem zc_M35 : zC0 Mc_35 16 := zc_M34.wR
def Mc_36 : zM := zAl Mc_35 (0, 8)
theorem zc_M36 : zC0 Mc_36 17 := zc_M35.al rfl
def Mc_37 : zM := sR Mc_36 12 7 16
theorem zc_M37 : zC0 Mc_37 17 := zc_M36.wR
def Mc_38 : zM := zAl Mc_37 (0, 30)
theorem zc_M38 : zC0 Mc_38 18 := zc_M37.al rfl
def Mc_39 : zM := sR Mc_38 12 8 17
theorem zc_M39 : zC0 Mc_39 18 := zc_M38.wR
def Mc_40 : zM := zAl Mc_39 (0, 30)
theorem zc_M40 : zC0 Mc_40 19 := zc_M39.al rfl
def Mc_41 : zM := sR Mc_40 12 9 18
theorem zc_M41 : zC0 Mc_41 19 := zc_M40.wR
def Mc_42 : zM := zAl Mc_41 (0, 30)
theorem zc_M42 : zC0 Mc_42 20 := zc_M41.al rfl
def Mc_43 : zM := sR Mc_42 12 10 19
theorem zc_M43 : zC0 Mc_43 20 := zc_M42.wR
theorem ct_3 {X : zX} {d : Nat} (hst : (zl X).stackTraces = false) (hd : 2 ≤ d) : Sd X m_X0_init d [.ref 12] Mc_27 (some (.inl none, Mc_43)) := by
  obtain ⟨d, rfl⟩ : ∃ e, d = e + 1 := ⟨d - 1, by omega⟩
  refine z_body ck_X0_init rfl (Nat.le_of_ble_eq_true rfl) rfl hst ?_
  show Rn X m_X0_init (d + 1) 0 [(0, .ref 12)] [] Mc_27 _
  refine r_aload_n 0 d_X0_init_0 rfl rfl ?_
  refine r_objInit ml_X0_3 oi_i oi_c (by omega) (Nat.le_of_ble_eq_true rfl) d_X0_init_1 ?_
  refine r_aload_n 0 d_X0_init_4 rfl rfl ?_
  refine r_bipush (6 : Int32) d_X0_init_5 rfl ?_
  refine rc_putI (ci := 0) zc_M27 (Nat.le_of_ble_eq_true rfl) rfl (M2 := Mc_28) rfl p_X0_9 rfl (by decide) d_X0_init_7 ?_
  refine r_aload_n 0 d_X0_init_10 rfl rfl ?_
  refine r_iconst (5 : Int32) d_X0_init_11 rfl ?_
  refine rc_putI (ci := 0) zc_M28 (Nat.le_of_ble_eq_true rfl) rfl (M2 := Mc_29) rfl p_X0_15 rfl (by decide) d_X0_init_12 ?_
  refine r_aload_n 0 d_X0_init_15 rfl rfl ?_
  refine r_bipush (12 : Int32) d_X0_init_16 rfl ?_
  refine rc_newa (t := 0) (ty := .int) zc_M29 zc_M43 (i := 13) (Nat.le_of_ble_eq_true rfl) rfl (M2 := Mc_30) rfl rfl (by decide) ac_int (by decide) rfl (Nat.le_of_ble_eq_true rfl) d_X0_init_18 ?_
  refine rc_putF (ci := 0) zc_M30 (Nat.le_of_ble_eq_true rfl) rfl (M2 := Mc_31) rfl p_X0_18 rfl (by simp) rfl d_X0_init_20 ?_
  refine r_aload_n 0 d_X0_init_23 rfl rfl ?_
  refine r_bipush (12 : Int32) d_X0_init_24 rfl ?_
  refine rc_newa (t := 0) (ty := .int) zc_M31 zc_M43 (i := 14) (Nat.le_of_ble_eq_true rfl) rfl (M2 := Mc_32) rfl rfl (by decide) ac_int (by decide) rfl (Nat.le_of_ble_eq_true rfl) d_X0_init_26 ?_
  refine rc_putF (ci := 0) zc_M32 (Nat.le_of_ble_eq_true rfl) rfl (M2 := Mc_33) rfl p_X0_22 rfl (by simp) rfl d_X0_init_28 ?_
  refine r_aload_n 0 d_X0_init_31 rfl rfl ?_
  refine r_bipush (48 : Int32) d_X0_init_32 rfl ?_
  refine rc_newa (t := 0) (ty := .int) zc_M33 zc_M43 (i := 15) (Nat.le_of_ble_eq_true rfl) rfl (M2 := Mc_34) rfl rfl (by decide) ac_int (by decide) rfl (Nat.le_of_ble_eq_true rfl) d_X0_init_34 ?_
  refine rc_putF (ci := 0) zc_M34 (Nat.le_of_ble_eq_true rfl) rfl (M2 := Mc_35) rfl p_X0_25 rfl (by simp) rfl d_X0_init_36 ?_
  refine r_aload_n 0 d_X0_init_39 rfl rfl ?_
  refine r_bipush (8 : Int32) d_X0_init_40 rfl ?_
  refine rc_newa (t := 0) (ty := .int) zc_M35 zc_M43 (i := 16) (Nat.le_of_ble_eq_true rfl) rfl (M2 := Mc_36) rfl rfl (by decide) ac_int (by decide) rfl (Nat.le_of_ble_eq_true rfl) d_X0_init_42 ?_
  refine rc_putF (ci := 0) zc_M36 (Nat.le_of_ble_eq_true rfl) rfl (M2 := Mc_37) rfl p_X0_28 rfl (by simp) rfl d_X0_init_44 ?_
  refine r_aload_n 0 d_X0_init_47 rfl rfl ?_
  refine r_bipush (30 : Int32) d_X0_init_48 rfl ?_
  refine rc_newa (t := 0) (ty := .int) zc_M37 zc_M43 (i := 17) (Nat.le_of_ble_eq_true rfl) rfl (M2 := Mc_38) rfl rfl (by decide) ac_int (by decide) rfl (Nat.le_of_ble_eq_true rfl) d_X0_init_50 ?_
  refine rc_putF (ci := 0) zc_M38 (Nat.le_of_ble_eq_true rfl) rfl (M2 := Mc_39) rfl p_X0_31 rfl (by simp) rfl d_X0_init_52 ?_
  refine r_aload_n 0 d_X0_init_55 rfl rfl ?_
  refine r_bipush (30 : Int32) d_X0_init_56 rfl ?_
  refine rc_newa (t := 0) (ty := .int) zc_M39 zc_M43 (i := 18) (Nat.le_of_ble_eq_true rfl) rfl (M2 := Mc_40) rfl rfl (by decide) ac_int (by decide) rfl (Nat.le_of_ble_eq_true rfl) d_X0_init_58 ?_
  refine rc_putF (ci := 0) zc_M40 (Nat.le_of_ble_eq_true rfl) rfl (M2 := Mc_41) rfl p_X0_34 rfl (by simp) rfl d_X0_init_60 ?_
  refine r_aload_n 0 d_X0_init_63 rfl rfl ?_
  refine r_bipush (30 : Int32) d_X0_init_64 rfl ?_
  refine rc_newa (t := 0) (ty := .int) zc_M41 zc_M43 (i := 19) (Nat.le_of_ble_eq_true rfl) rfl (M2 := Mc_42) rfl rfl (by decide) ac_int (by decide) rfl (Nat.le_of_ble_eq_true rfl) d_X0_init_66 ?_
  refine rc_putF (ci := 0) zc_M42 (Nat.le_of_ble_eq_true rfl) rfl (M2 := Mc_43) rfl p_X0_37 rfl (by simp) rfl d_X0_init_68 ?_
  exact r_vret rfl d_X0_init_71
def Mc_44 : zM := sR Mc_43 11 1 12
theorem zc_M44 : zC0 Mc_44 20 := zc_M43.wR
def Mc_45 : zM := sR Mc_44 11 0 2
theorem zc_M45 : zC0 Mc_45 20 := zc_M44.wR
theorem ct_4 {X : zX} {d : Nat} (hst : (zl X).stackTraces = false) (hd : 3 ≤ d) : Sd X m_X1_init d [.ref 11, .ref 2] Mc_26 (some (.inl none, Mc_45)) := by
  obtain ⟨d, rfl⟩ : ∃ e, d = e + 1 := ⟨d - 1, by omega⟩
  refine z_body ck_X1_init rfl (Nat.le_of_ble_eq_true rfl) rfl hst ?_
  show Rn X m_X1_init (d + 1) 0 [(0, .ref 11), (1, .ref 2)] [] Mc_26 _
  refine r_aload_n 0 d_X1_init_0 rfl rfl ?_
  refine r_objInit ml_X1_3 oi_i oi_c (by omega) (Nat.le_of_ble_eq_true rfl) d_X1_init_1 ?_
  refine r_aload_n 0 d_X1_init_4 rfl rfl ?_
  refine rc_new (ci := 0) zc_M26 zc_M45 (i := 12) (Nat.le_of_ble_eq_true rfl) rfl (M2 := Mc_27) rfl zcf_0 zdv_0 cl_X1_9 it_X0 iz_X0 d_X1_init_5 ?_
  refine r_dup d_X1_init_8 rfl ?_
  refine rc_call (d2 := 0) (av := [.ref 12]) (M2 := Mc_43) zc_M27 zc_M43 zc_M45 (Nat.le_of_ble_eq_true rfl) (Nat.le_of_ble_eq_true rfl) (z_runIN ck_X0_init rfl rfl mn_X1_11 ci_X0_init rfl rfl (Nat.le_of_ble_eq_true rfl) d_X1_init_9) (ct_3 hst (by omega)) ?_
  refine rc_putF (ci := 1) zc_M43 (Nat.le_of_ble_eq_true rfl) rfl (M2 := Mc_44) rfl p_X1_12 rfl (by simp) rfl d_X1_init_12 ?_
  refine r_aload_n 0 d_X1_init_15 rfl rfl ?_
  refine r_aload_n 1 d_X1_init_16 rfl rfl ?_
  refine rc_putF (ci := 1) zc_M44 (Nat.le_of_ble_eq_true rfl) rfl (M2 := Mc_45) rfl p_X1_18 rfl (by simp) rfl d_X1_init_17 ?_
  exact r_vret rfl d_X1_init_20
def Mc_46 : zM := sR Mc_45 0 3 11
theorem zc_M46 : zC0 Mc_46 20 := zc_M45.wR
def Mc_47 : zM := zAl Mc_46 (10, 2)
theorem zc_M47 : zC0 Mc_47 21 := zc_M46.al rfl
def Mc_48 : zM := zAl Mc_47 (0, 500)
theorem zc_M48 : zC0 Mc_48 22 := zc_M47.al rfl
def Mc_49 : zM := sR Mc_48 20 0 21
theorem zc_M49 : zC0 Mc_49 22 := zc_M48.wR
theorem ct_5 {X : zX} {d : Nat} (hst : (zl X).stackTraces = false) (hd : 2 ≤ d) : Sd X m_X3_init d [.ref 20] Mc_47 (some (.inl none, Mc_49)) := by
  obtain ⟨d, rfl⟩ : ∃ e, d = e + 1 := ⟨d - 1, by omega⟩
  refine z_body ck_X3_init rfl (Nat.le_of_ble_eq_true rfl) rfl hst ?_
  show Rn X m_X3_init (d + 1) 0 [(0, .ref 20)] [] Mc_47 _
  refine r_aload_n 0 d_X3_init_0 rfl rfl ?_
  refine r_objInit ml_X3_3 oi_i oi_c (by omega) (Nat.le_of_ble_eq_true rfl) d_X3_init_1 ?_
  refine r_aload_n 0 d_X3_init_4 rfl rfl ?_
  refine r_sipush (500 : Int32) d_X3_init_5 rfl ?_
  refine rc_newa (t := 0) (ty := .int) zc_M47 zc_M49 (i := 21) (Nat.le_of_ble_eq_true rfl) rfl (M2 := Mc_48) rfl rfl (by decide) ac_int (by decide) rfl (Nat.le_of_ble_eq_true rfl) d_X3_init_8 ?_
  refine rc_putF (ci := 3) zc_M48 (Nat.le_of_ble_eq_true rfl) rfl (M2 := Mc_49) rfl p_X3_9 rfl (by simp) rfl d_X3_init_10 ?_
  exact r_vret rfl d_X3_init_13
def Mc_50 : zM := sR Mc_49 0 4 20
theorem zc_M50 : zC0 Mc_50 22 := zc_M49.wR
def Mc_51 : zM := zAl Mc_50 (14, 7)
theorem zc_M51 : zC0 Mc_51 23 := zc_M50.al rfl
def Mc_52 : zM := zAl Mc_51 (6, 15)
theorem zc_M52 : zC0 Mc_52 24 := zc_M51.al rfl
def Mc_53 : zM := sR Mc_52 22 1 23
theorem zc_M53 : zC0 Mc_53 24 := zc_M52.wR
def Mc_54 : zM := zAl Mc_53 (10, 2)
theorem zc_M54 : zC0 Mc_54 25 := zc_M53.al rfl
def Mc_55 : zM := zAl Mc_54 (0, 500)
theorem zc_M55 : zC0 Mc_55 26 := zc_M54.al rfl
def Mc_56 : zM := sR Mc_55 24 0 25
theorem zc_M56 : zC0 Mc_56 26 := zc_M55.wR
theorem ct_6 {X : zX} {d : Nat} (hst : (zl X).stackTraces = false) (hd : 2 ≤ d) : Sd X m_X3_init d [.ref 24] Mc_54 (some (.inl none, Mc_56)) := by
  obtain ⟨d, rfl⟩ : ∃ e, d = e + 1 := ⟨d - 1, by omega⟩
  refine z_body ck_X3_init rfl (Nat.le_of_ble_eq_true rfl) rfl hst ?_
  show Rn X m_X3_init (d + 1) 0 [(0, .ref 24)] [] Mc_54 _
  refine r_aload_n 0 d_X3_init_0 rfl rfl ?_
  refine r_objInit ml_X3_3 oi_i oi_c (by omega) (Nat.le_of_ble_eq_true rfl) d_X3_init_1 ?_
  refine r_aload_n 0 d_X3_init_4 rfl rfl ?_
  refine r_sipush (500 : Int32) d_X3_init_5 rfl ?_
  refine rc_newa (t := 0) (ty := .int) zc_M54 zc_M56 (i := 25) (Nat.le_of_ble_eq_true rfl) rfl (M2 := Mc_55) rfl rfl (by decide) ac_int (by decide) rfl (Nat.le_of_ble_eq_true rfl) d_X3_init_8 ?_
  refine rc_putF (ci := 3) zc_M55 (Nat.le_of_ble_eq_true rfl) rfl (M2 := Mc_56) rfl p_X3_9 rfl (by simp) rfl d_X3_init_10 ?_
  exact r_vret rfl d_X3_init_13
def Mc_57 : zM := sR Mc_56 22 2 24
theorem zc_M57 : zC0 Mc_57 26 := zc_M56.wR
def Mc_58 : zM := zAl Mc_57 (0, 1024)
theorem zc_M58 : zC0 Mc_58 27 := zc_M57.al rfl
def Mc_59 : zM := sR Mc_58 22 3 26
theorem zc_M59 : zC0 Mc_59 27 := zc_M58.wR
def Mc_60 : zM := sR Mc_59 22 0 2
theorem zc_M60 : zC0 Mc_60 27 := zc_M59.wR
def Mc_61 : zM := zAl Mc_60 (10, 2)
theorem zc_M61 : zC0 Mc_61 28 := zc_M60.al rfl
def Mc_62 : zM := zAl Mc_61 (0, 500)
theorem zc_M62 : zC0 Mc_62 29 := zc_M61.al rfl
def Mc_63 : zM := sR Mc_62 27 0 28
theorem zc_M63 : zC0 Mc_63 29 := zc_M62.wR
theorem ct_7 {X : zX} {d : Nat} (hst : (zl X).stackTraces = false) (hd : 2 ≤ d) : Sd X m_X3_init d [.ref 27] Mc_61 (some (.inl none, Mc_63)) := by
  obtain ⟨d, rfl⟩ : ∃ e, d = e + 1 := ⟨d - 1, by omega⟩
  refine z_body ck_X3_init rfl (Nat.le_of_ble_eq_true rfl) rfl hst ?_
  show Rn X m_X3_init (d + 1) 0 [(0, .ref 27)] [] Mc_61 _
  refine r_aload_n 0 d_X3_init_0 rfl rfl ?_
  refine r_objInit ml_X3_3 oi_i oi_c (by omega) (Nat.le_of_ble_eq_true rfl) d_X3_init_1 ?_
  refine r_aload_n 0 d_X3_init_4 rfl rfl ?_
  refine r_sipush (500 : Int32) d_X3_init_5 rfl ?_
  refine rc_newa (t := 0) (ty := .int) zc_M61 zc_M63 (i := 28) (Nat.le_of_ble_eq_true rfl) rfl (M2 := Mc_62) rfl rfl (by decide) ac_int (by decide) rfl (Nat.le_of_ble_eq_true rfl) d_X3_init_8 ?_
  refine rc_putF (ci := 3) zc_M62 (Nat.le_of_ble_eq_true rfl) rfl (M2 := Mc_63) rfl p_X3_9 rfl (by simp) rfl d_X3_init_10 ?_
  exact r_vret rfl d_X3_init_13
def Mc_64 : zM := sR Mc_63 23 0 27
theorem zc_M64 : zC0 Mc_64 29 := zc_M63.wR
def Mc_65 : zM := zAl Mc_64 (10, 2)
theorem zc_M65 : zC0 Mc_65 30 := zc_M64.al rfl
def Mc_66 : zM := zAl Mc_65 (0, 500)
theorem zc_M66 : zC0 Mc_66 31 := zc_M65.al rfl
def Mc_67 : zM := sR Mc_66 29 0 30
theorem zc_M67 : zC0 Mc_67 31 := zc_M66.wR
theorem ct_8 {X : zX} {d : Nat} (hst : (zl X).stackTraces = false) (hd : 2 ≤ d) : Sd X m_X3_init d [.ref 29] Mc_65 (some (.inl none, Mc_67)) := by
  obtain ⟨d, rfl⟩ : ∃ e, d = e + 1 := ⟨d - 1, by omega⟩
  refine z_body ck_X3_init rfl (Nat.le_of_ble_eq_true rfl) rfl hst ?_
  show Rn X m_X3_init (d + 1) 0 [(0, .ref 29)] [] Mc_65 _
  refine r_aload_n 0 d_X3_init_0 rfl rfl ?_
  refine r_objInit ml_X3_3 oi_i oi_c (by omega) (Nat.le_of_ble_eq_true rfl) d_X3_init_1 ?_
  refine r_aload_n 0 d_X3_init_4 rfl rfl ?_
  refine r_sipush (500 : Int32) d_X3_init_5 rfl ?_
  refine rc_newa (t := 0) (ty := .int) zc_M65 zc_M67 (i := 30) (Nat.le_of_ble_eq_true rfl) rfl (M2 := Mc_66) rfl rfl (by decide) ac_int (by decide) rfl (Nat.le_of_ble_eq_true rfl) d_X3_init_8 ?_
  refine rc_putF (ci := 3) zc_M66 (Nat.le_of_ble_eq_true rfl) rfl (M2 := Mc_67) rfl p_X3_9 rfl (by simp) rfl d_X3_init_10 ?_
  exact r_vret rfl d_X3_init_13
def Mc_68 : zM := sR Mc_67 23 1 29
theorem zc_M68 : zC0 Mc_68 31 := zc_M67.wR
def Mc_69 : zM := zAl Mc_68 (10, 2)
theorem zc_M69 : zC0 Mc_69 32 := zc_M68.al rfl
def Mc_70 : zM := zAl Mc_69 (0, 500)
theorem zc_M70 : zC0 Mc_70 33 := zc_M69.al rfl
def Mc_71 : zM := sR Mc_70 31 0 32
theorem zc_M71 : zC0 Mc_71 33 := zc_M70.wR
theorem ct_9 {X : zX} {d : Nat} (hst : (zl X).stackTraces = false) (hd : 2 ≤ d) : Sd X m_X3_init d [.ref 31] Mc_69 (some (.inl none, Mc_71)) := by
  obtain ⟨d, rfl⟩ : ∃ e, d = e + 1 := ⟨d - 1, by omega⟩
  refine z_body ck_X3_init rfl (Nat.le_of_ble_eq_true rfl) rfl hst ?_
  show Rn X m_X3_init (d + 1) 0 [(0, .ref 31)] [] Mc_69 _
  refine r_aload_n 0 d_X3_init_0 rfl rfl ?_
  refine r_objInit ml_X3_3 oi_i oi_c (by omega) (Nat.le_of_ble_eq_true rfl) d_X3_init_1 ?_
  refine r_aload_n 0 d_X3_init_4 rfl rfl ?_
  refine r_sipush (500 : Int32) d_X3_init_5 rfl ?_
  refine rc_newa (t := 0) (ty := .int) zc_M69 zc_M71 (i := 32) (Nat.le_of_ble_eq_true rfl) rfl (M2 := Mc_70) rfl rfl (by decide) ac_int (by decide) rfl (Nat.le_of_ble_eq_true rfl) d_X3_init_8 ?_
  refine rc_putF (ci := 3) zc_M70 (Nat.le_of_ble_eq_true rfl) rfl (M2 := Mc_71) rfl p_X3_9 rfl (by simp) rfl d_X3_init_10 ?_
  exact r_vret rfl d_X3_init_13
def Mc_72 : zM := sR Mc_71 23 2 31
theorem zc_M72 : zC0 Mc_72 33 := zc_M71.wR
def Mc_73 : zM := zAl Mc_72 (10, 2)
theorem zc_M73 : zC0 Mc_73 34 := zc_M72.al rfl
def Mc_74 : zM := zAl Mc_73 (0, 500)
theorem zc_M74 : zC0 Mc_74 35 := zc_M73.al rfl
def Mc_75 : zM := sR Mc_74 33 0 34
theorem zc_M75 : zC0 Mc_75 35 := zc_M74.wR
theorem ct_10 {X : zX} {d : Nat} (hst : (zl X).stackTraces = false) (hd : 2 ≤ d) : Sd X m_X3_init d [.ref 33] Mc_73 (some (.inl none, Mc_75)) := by
  obtain ⟨d, rfl⟩ : ∃ e, d = e + 1 := ⟨d - 1, by omega⟩
  refine z_body ck_X3_init rfl (Nat.le_of_ble_eq_true rfl) rfl hst ?_
  show Rn X m_X3_init (d + 1) 0 [(0, .ref 33)] [] Mc_73 _
  refine r_aload_n 0 d_X3_init_0 rfl rfl ?_
  refine r_objInit ml_X3_3 oi_i oi_c (by omega) (Nat.le_of_ble_eq_true rfl) d_X3_init_1 ?_
  refine r_aload_n 0 d_X3_init_4 rfl rfl ?_
  refine r_sipush (500 : Int32) d_X3_init_5 rfl ?_
  refine rc_newa (t := 0) (ty := .int) zc_M73 zc_M75 (i := 34) (Nat.le_of_ble_eq_true rfl) rfl (M2 := Mc_74) rfl rfl (by decide) ac_int (by decide) rfl (Nat.le_of_ble_eq_true rfl) d_X3_init_8 ?_
  refine rc_putF (ci := 3) zc_M74 (Nat.le_of_ble_eq_true rfl) rfl (M2 := Mc_75) rfl p_X3_9 rfl (by simp) rfl d_X3_init_10 ?_
  exact r_vret rfl d_X3_init_13
def Mc_76 : zM := sR Mc_75 23 3 33
theorem zc_M76 : zC0 Mc_76 35 := zc_M75.wR
def Mc_77 : zM := zAl Mc_76 (10, 2)
theorem zc_M77 : zC0 Mc_77 36 := zc_M76.al rfl
def Mc_78 : zM := zAl Mc_77 (0, 500)
theorem zc_M78 : zC0 Mc_78 37 := zc_M77.al rfl
def Mc_79 : zM := sR Mc_78 35 0 36
theorem zc_M79 : zC0 Mc_79 37 := zc_M78.wR
theorem ct_11 {X : zX} {d : Nat} (hst : (zl X).stackTraces = false) (hd : 2 ≤ d) : Sd X m_X3_init d [.ref 35] Mc_77 (some (.inl none, Mc_79)) := by
  obtain ⟨d, rfl⟩ : ∃ e, d = e + 1 := ⟨d - 1, by omega⟩
  refine z_body ck_X3_init rfl (Nat.le_of_ble_eq_true rfl) rfl hst ?_
  show Rn X m_X3_init (d + 1) 0 [(0, .ref 35)] [] Mc_77 _
  refine r_aload_n 0 d_X3_init_0 rfl rfl ?_
  refine r_objInit ml_X3_3 oi_i oi_c (by omega) (Nat.le_of_ble_eq_true rfl) d_X3_init_1 ?_
  refine r_aload_n 0 d_X3_init_4 rfl rfl ?_
  refine r_sipush (500 : Int32) d_X3_init_5 rfl ?_
  refine rc_newa (t := 0) (ty := .int) zc_M77 zc_M79 (i := 36) (Nat.le_of_ble_eq_true rfl) rfl (M2 := Mc_78) rfl rfl (by decide) ac_int (by decide) rfl (Nat.le_of_ble_eq_true rfl) d_X3_init_8 ?_
  refine rc_putF (ci := 3) zc_M78 (Nat.le_of_ble_eq_true rfl) rfl (M2 := Mc_79) rfl p_X3_9 rfl (by simp) rfl d_X3_init_10 ?_
  exact r_vret rfl d_X3_init_13
def Mc_80 : zM := sR Mc_79 23 4 35
theorem zc_M80 : zC0 Mc_80 37 := zc_M79.wR
def Mc_81 : zM := zAl Mc_80 (10, 2)
theorem zc_M81 : zC0 Mc_81 38 := zc_M80.al rfl
def Mc_82 : zM := zAl Mc_81 (0, 500)
theorem zc_M82 : zC0 Mc_82 39 := zc_M81.al rfl
def Mc_83 : zM := sR Mc_82 37 0 38
theorem zc_M83 : zC0 Mc_83 39 := zc_M82.wR
theorem ct_12 {X : zX} {d : Nat} (hst : (zl X).stackTraces = false) (hd : 2 ≤ d) : Sd X m_X3_init d [.ref 37] Mc_81 (some (.inl none, Mc_83)) := by
  obtain ⟨d, rfl⟩ : ∃ e, d = e + 1 := ⟨d - 1, by omega⟩
  refine z_body ck_X3_init rfl (Nat.le_of_ble_eq_true rfl) rfl hst ?_
  show Rn X m_X3_init (d + 1) 0 [(0, .ref 37)] [] Mc_81 _
  refine r_aload_n 0 d_X3_init_0 rfl rfl ?_
  refine r_objInit ml_X3_3 oi_i oi_c (by omega) (Nat.le_of_ble_eq_true rfl) d_X3_init_1 ?_
  refine r_aload_n 0 d_X3_init_4 rfl rfl ?_
  refine r_sipush (500 : Int32) d_X3_init_5 rfl ?_
  refine rc_newa (t := 0) (ty := .int) zc_M81 zc_M83 (i := 38) (Nat.le_of_ble_eq_true rfl) rfl (M2 := Mc_82) rfl rfl (by decide) ac_int (by decide) rfl (Nat.le_of_ble_eq_true rfl) d_X3_init_8 ?_
  refine rc_putF (ci := 3) zc_M82 (Nat.le_of_ble_eq_true rfl) rfl (M2 := Mc_83) rfl p_X3_9 rfl (by simp) rfl d_X3_init_10 ?_
  exact r_vret rfl d_X3_init_13
def Mc_84 : zM := sR Mc_83 23 5 37
theorem zc_M84 : zC0 Mc_84 39 := zc_M83.wR
def Mc_85 : zM := zAl Mc_84 (10, 2)
theorem zc_M85 : zC0 Mc_85 40 := zc_M84.al rfl
def Mc_86 : zM := zAl Mc_85 (0, 500)
theorem zc_M86 : zC0 Mc_86 41 := zc_M85.al rfl
def Mc_87 : zM := sR Mc_86 39 0 40
theorem zc_M87 : zC0 Mc_87 41 := zc_M86.wR
theorem ct_13 {X : zX} {d : Nat} (hst : (zl X).stackTraces = false) (hd : 2 ≤ d) : Sd X m_X3_init d [.ref 39] Mc_85 (some (.inl none, Mc_87)) := by
  obtain ⟨d, rfl⟩ : ∃ e, d = e + 1 := ⟨d - 1, by omega⟩
  refine z_body ck_X3_init rfl (Nat.le_of_ble_eq_true rfl) rfl hst ?_
  show Rn X m_X3_init (d + 1) 0 [(0, .ref 39)] [] Mc_85 _
  refine r_aload_n 0 d_X3_init_0 rfl rfl ?_
  refine r_objInit ml_X3_3 oi_i oi_c (by omega) (Nat.le_of_ble_eq_true rfl) d_X3_init_1 ?_
  refine r_aload_n 0 d_X3_init_4 rfl rfl ?_
  refine r_sipush (500 : Int32) d_X3_init_5 rfl ?_
  refine rc_newa (t := 0) (ty := .int) zc_M85 zc_M87 (i := 40) (Nat.le_of_ble_eq_true rfl) rfl (M2 := Mc_86) rfl rfl (by decide) ac_int (by decide) rfl (Nat.le_of_ble_eq_true rfl) d_X3_init_8 ?_
  refine rc_putF (ci := 3) zc_M86 (Nat.le_of_ble_eq_true rfl) rfl (M2 := Mc_87) rfl p_X3_9 rfl (by simp) rfl d_X3_init_10 ?_
  exact r_vret rfl d_X3_init_13
def Mc_88 : zM := sR Mc_87 23 6 39
theorem zc_M88 : zC0 Mc_88 41 := zc_M87.wR
def Mc_89 : zM := zAl Mc_88 (10, 2)
theorem zc_M89 : zC0 Mc_89 42 := zc_M88.al rfl
def Mc_90 : zM := zAl Mc_89 (0, 500)
theorem zc_M90 : zC0 Mc_90 43 := zc_M89.al rfl
def Mc_91 : zM := sR Mc_90 41 0 42
theorem zc_M91 : zC0 Mc_91 43 := zc_M90.wR
theorem ct_14 {X : zX} {d : Nat} (hst : (zl X).stackTraces = false) (hd : 2 ≤ d) : Sd X m_X3_init d [.ref 41] Mc_89 (some (.inl none, Mc_91)) := by
  obtain ⟨d, rfl⟩ : ∃ e, d = e + 1 := ⟨d - 1, by omega⟩
  refine z_body ck_X3_init rfl (Nat.le_of_ble_eq_true rfl) rfl hst ?_
  show Rn X m_X3_init (d + 1) 0 [(0, .ref 41)] [] Mc_89 _
  refine r_aload_n 0 d_X3_init_0 rfl rfl ?_
  refine r_objInit ml_X3_3 oi_i oi_c (by omega) (Nat.le_of_ble_eq_true rfl) d_X3_init_1 ?_
  refine r_aload_n 0 d_X3_init_4 rfl rfl ?_
  refine r_sipush (500 : Int32) d_X3_init_5 rfl ?_
  refine rc_newa (t := 0) (ty := .int) zc_M89 zc_M91 (i := 42) (Nat.le_of_ble_eq_true rfl) rfl (M2 := Mc_90) rfl rfl (by decide) ac_int (by decide) rfl (Nat.le_of_ble_eq_true rfl) d_X3_init_8 ?_
  refine rc_putF (ci := 3) zc_M90 (Nat.le_of_ble_eq_true rfl) rfl (M2 := Mc_91) rfl p_X3_9 rfl (by simp) rfl d_X3_init_10 ?_
  exact r_vret rfl d_X3_init_13
def Mc_92 : zM := sR Mc_91 23 7 41
theorem zc_M92 : zC0 Mc_92 43 := zc_M91.wR
def Mc_93 : zM := zAl Mc_92 (10, 2)
theorem zc_M93 : zC0 Mc_93 44 := zc_M92.al rfl
def Mc_94 : zM := zAl Mc_93 (0, 500)
theorem zc_M94 : zC0 Mc_94 45 := zc_M93.al rfl
def Mc_95 : zM := sR Mc_94 43 0 44
theorem zc_M95 : zC0 Mc_95 45 := zc_M94.wR
theorem ct_15 {X : zX} {d : Nat} (hst : (zl X).stackTraces = false) (hd : 2 ≤ d) : Sd X m_X3_init d [.ref 43] Mc_93 (some (.inl none, Mc_95)) := by
  obtain ⟨d, rfl⟩ : ∃ e, d = e + 1 := ⟨d - 1, by omega⟩
  refine z_body ck_X3_init rfl (Nat.le_of_ble_eq_true rfl) rfl hst ?_
  show Rn X m_X3_init (d + 1) 0 [(0, .ref 43)] [] Mc_93 _
  refine r_aload_n 0 d_X3_init_0 rfl rfl ?_
  refine r_objInit ml_X3_3 oi_i oi_c (by omega) (Nat.le_of_ble_eq_true rfl) d_X3_init_1 ?_
  refine r_aload_n 0 d_X3_init_4 rfl rfl ?_
  refine r_sipush (500 : Int32) d_X3_init_5 rfl ?_
  refine rc_newa (t := 0) (ty := .int) zc_M93 zc_M95 (i := 44) (Nat.le_of_ble_eq_true rfl) rfl (M2 := Mc_94) rfl rfl (by decide) ac_int (by decide) rfl (Nat.le_of_ble_eq_true rfl) d_X3_init_8 ?_
  refine rc_putF (ci := 3) zc_M94 (Nat.le_of_ble_eq_true rfl) rfl (M2 := Mc_95) rfl p_X3_9 rfl (by simp) rfl d_X3_init_10 ?_
  exact r_vret rfl d_X3_init_13
def Mc_96 : zM := sR Mc_95 23 8 43
theorem zc_M96 : zC0 Mc_96 45 := zc_M95.wR
def Mc_97 : zM := zAl Mc_96 (10, 2)
theorem zc_M97 : zC0 Mc_97 46 := zc_M96.al rfl
def Mc_98 : zM := zAl Mc_97 (0, 500)
theorem zc_M98 : zC0 Mc_98 47 := zc_M97.al rfl
def Mc_99 : zM := sR Mc_98 45 0 46
theorem zc_M99 : zC0 Mc_99 47 := zc_M98.wR
theorem ct_16 {X : zX} {d : Nat} (hst : (zl X).stackTraces = false) (hd : 2 ≤ d) : Sd X m_X3_init d [.ref 45] Mc_97 (some (.inl none, Mc_99)) := by
  obtain ⟨d, rfl⟩ : ∃ e, d = e + 1 := ⟨d - 1, by omega⟩
  refine z_body ck_X3_init rfl (Nat.le_of_ble_eq_true rfl) rfl hst ?_
  show Rn X m_X3_init (d + 1) 0 [(0, .ref 45)] [] Mc_97 _
  refine r_aload_n 0 d_X3_init_0 rfl rfl ?_
  refine r_objInit ml_X3_3 oi_i oi_c (by omega) (Nat.le_of_ble_eq_true rfl) d_X3_init_1 ?_
  refine r_aload_n 0 d_X3_init_4 rfl rfl ?_
  refine r_sipush (500 : Int32) d_X3_init_5 rfl ?_
  refine rc_newa (t := 0) (ty := .int) zc_M97 zc_M99 (i := 46) (Nat.le_of_ble_eq_true rfl) rfl (M2 := Mc_98) rfl rfl (by decide) ac_int (by decide) rfl (Nat.le_of_ble_eq_true rfl) d_X3_init_8 ?_
  refine rc_putF (ci := 3) zc_M98 (Nat.le_of_ble_eq_true rfl) rfl (M2 := Mc_99) rfl p_X3_9 rfl (by simp) rfl d_X3_init_10 ?_
  exact r_vret rfl d_X3_init_13
def Mc_100 : zM := sR Mc_99 23 9 45
theorem zc_M100 : zC0 Mc_100 47 := zc_M99.wR
def Mc_101 : zM := zAl Mc_100 (10, 2)
theorem zc_M101 : zC0 Mc_101 48 := zc_M100.al rfl
def Mc_102 : zM := zAl Mc_101 (0, 500)
theorem zc_M102 : zC0 Mc_102 49 := zc_M101.al rfl
def Mc_103 : zM := sR Mc_102 47 0 48
theorem zc_M103 : zC0 Mc_103 49 := zc_M102.wR
theorem ct_17 {X : zX} {d : Nat} (hst : (zl X).stackTraces = false) (hd : 2 ≤ d) : Sd X m_X3_init d [.ref 47] Mc_101 (some (.inl none, Mc_103)) := by
  obtain ⟨d, rfl⟩ : ∃ e, d = e + 1 := ⟨d - 1, by omega⟩
  refine z_body ck_X3_init rfl (Nat.le_of_ble_eq_true rfl) rfl hst ?_
  show Rn X m_X3_init (d + 1) 0 [(0, .ref 47)] [] Mc_101 _
  refine r_aload_n 0 d_X3_init_0 rfl rfl ?_
  refine r_objInit ml_X3_3 oi_i oi_c (by omega) (Nat.le_of_ble_eq_true rfl) d_X3_init_1 ?_
  refine r_aload_n 0 d_X3_init_4 rfl rfl ?_
  refine r_sipush (500 : Int32) d_X3_init_5 rfl ?_
  refine rc_newa (t := 0) (ty := .int) zc_M101 zc_M103 (i := 48) (Nat.le_of_ble_eq_true rfl) rfl (M2 := Mc_102) rfl rfl (by decide) ac_int (by decide) rfl (Nat.le_of_ble_eq_true rfl) d_X3_init_8 ?_
  refine rc_putF (ci := 3) zc_M102 (Nat.le_of_ble_eq_true rfl) rfl (M2 := Mc_103) rfl p_X3_9 rfl (by simp) rfl d_X3_init_10 ?_
  exact r_vret rfl d_X3_init_13
def Mc_104 : zM := sR Mc_103 23 10 47
theorem zc_M104 : zC0 Mc_104 49 := zc_M103.wR
def Mc_105 : zM := zAl Mc_104 (10, 2)
theorem zc_M105 : zC0 Mc_105 50 := zc_M104.al rfl
def Mc_106 : zM := zAl Mc_105 (0, 500)
theorem zc_M106 : zC0 Mc_106 51 := zc_M105.al rfl
def Mc_107 : zM := sR Mc_106 49 0 50
theorem zc_M107 : zC0 Mc_107 51 := zc_M106.wR
theorem ct_18 {X : zX} {d : Nat} (hst : (zl X).stackTraces = false) (hd : 2 ≤ d) : Sd X m_X3_init d [.ref 49] Mc_105 (some (.inl none, Mc_107)) := by
  obtain ⟨d, rfl⟩ : ∃ e, d = e + 1 := ⟨d - 1, by omega⟩
  refine z_body ck_X3_init rfl (Nat.le_of_ble_eq_true rfl) rfl hst ?_
  show Rn X m_X3_init (d + 1) 0 [(0, .ref 49)] [] Mc_105 _
  refine r_aload_n 0 d_X3_init_0 rfl rfl ?_
  refine r_objInit ml_X3_3 oi_i oi_c (by omega) (Nat.le_of_ble_eq_true rfl) d_X3_init_1 ?_
  refine r_aload_n 0 d_X3_init_4 rfl rfl ?_
  refine r_sipush (500 : Int32) d_X3_init_5 rfl ?_
  refine rc_newa (t := 0) (ty := .int) zc_M105 zc_M107 (i := 50) (Nat.le_of_ble_eq_true rfl) rfl (M2 := Mc_106) rfl rfl (by decide) ac_int (by decide) rfl (Nat.le_of_ble_eq_true rfl) d_X3_init_8 ?_
  refine rc_putF (ci := 3) zc_M106 (Nat.le_of_ble_eq_true rfl) rfl (M2 := Mc_107) rfl p_X3_9 rfl (by simp) rfl d_X3_init_10 ?_
  exact r_vret rfl d_X3_init_13
def Mc_108 : zM := sR Mc_107 23 11 49
theorem zc_M108 : zC0 Mc_108 51 := zc_M107.wR
def Mc_109 : zM := zAl Mc_108 (10, 2)
theorem zc_M109 : zC0 Mc_109 52 := zc_M108.al rfl
def Mc_110 : zM := zAl Mc_109 (0, 500)
theorem zc_M110 : zC0 Mc_110 53 := zc_M109.al rfl
def Mc_111 : zM := sR Mc_110 51 0 52
theorem zc_M111 : zC0 Mc_111 53 := zc_M110.wR
theorem ct_19 {X : zX} {d : Nat} (hst : (zl X).stackTraces = false) (hd : 2 ≤ d) : Sd X m_X3_init d [.ref 51] Mc_109 (some (.inl none, Mc_111)) := by
  obtain ⟨d, rfl⟩ : ∃ e, d = e + 1 := ⟨d - 1, by omega⟩
  refine z_body ck_X3_init rfl (Nat.le_of_ble_eq_true rfl) rfl hst ?_
  show Rn X m_X3_init (d + 1) 0 [(0, .ref 51)] [] Mc_109 _
  refine r_aload_n 0 d_X3_init_0 rfl rfl ?_
  refine r_objInit ml_X3_3 oi_i oi_c (by omega) (Nat.le_of_ble_eq_true rfl) d_X3_init_1 ?_
  refine r_aload_n 0 d_X3_init_4 rfl rfl ?_
  refine r_sipush (500 : Int32) d_X3_init_5 rfl ?_
  refine rc_newa (t := 0) (ty := .int) zc_M109 zc_M111 (i := 52) (Nat.le_of_ble_eq_true rfl) rfl (M2 := Mc_110) rfl rfl (by decide) ac_int (by decide) rfl (Nat.le_of_ble_eq_true rfl) d_X3_init_8 ?_
  refine rc_putF (ci := 3) zc_M110 (Nat.le_of_ble_eq_true rfl) rfl (M2 := Mc_111) rfl p_X3_9 rfl (by simp) rfl d_X3_init_10 ?_
  exact r_vret rfl d_X3_init_13
def Mc_112 : zM := sR Mc_111 23 12 51
theorem zc_M112 : zC0 Mc_112 53 := zc_M111.wR
def Mc_113 : zM := zAl Mc_112 (10, 2)
theorem zc_M113 : zC0 Mc_113 54 := zc_M112.al rfl
def Mc_114 : zM := zAl Mc_113 (0, 500)
theorem zc_M114 : zC0 Mc_114 55 := zc_M113.al rfl
def Mc_115 : zM := sR Mc_114 53 0 54
theorem zc_M115 : zC0 Mc_115 55 := zc_M114.wR
theorem ct_20 {X : zX} {d : Nat} (hst : (zl X).stackTraces = false) (hd : 2 ≤ d) : Sd X m_X3_init d [.ref 53] Mc_113 (some (.inl none, Mc_115)) := by
  obtain ⟨d, rfl⟩ : ∃ e, d = e + 1 := ⟨d - 1, by omega⟩
  refine z_body ck_X3_init rfl (Nat.le_of_ble_eq_true rfl) rfl hst ?_
  show Rn X m_X3_init (d + 1) 0 [(0, .ref 53)] [] Mc_113 _
  refine r_aload_n 0 d_X3_init_0 rfl rfl ?_
  refine r_objInit ml_X3_3 oi_i oi_c (by omega) (Nat.le_of_ble_eq_true rfl) d_X3_init_1 ?_
  refine r_aload_n 0 d_X3_init_4 rfl rfl ?_
  refine r_sipush (500 : Int32) d_X3_init_5 rfl ?_
  refine rc_newa (t := 0) (ty := .int) zc_M113 zc_M115 (i := 54) (Nat.le_of_ble_eq_true rfl) rfl (M2 := Mc_114) rfl rfl (by decide) ac_int (by decide) rfl (Nat.le_of_ble_eq_true rfl) d_X3_init_8 ?_
  refine rc_putF (ci := 3) zc_M114 (Nat.le_of_ble_eq_true rfl) rfl (M2 := Mc_115) rfl p_X3_9 rfl (by simp) rfl d_X3_init_10 ?_
  exact r_vret rfl d_X3_init_13
def Mc_116 : zM := sR Mc_115 23 13 53
theorem zc_M116 : zC0 Mc_116 55 := zc_M115.wR
def Mc_117 : zM := zAl Mc_116 (10, 2)
theorem zc_M117 : zC0 Mc_117 56 := zc_M116.al rfl
def Mc_118 : zM := zAl Mc_117 (0, 500)
theorem zc_M118 : zC0 Mc_118 57 := zc_M117.al rfl
def Mc_119 : zM := sR Mc_118 55 0 56
theorem zc_M119 : zC0 Mc_119 57 := zc_M118.wR
theorem ct_21 {X : zX} {d : Nat} (hst : (zl X).stackTraces = false) (hd : 2 ≤ d) : Sd X m_X3_init d [.ref 55] Mc_117 (some (.inl none, Mc_119)) := by
  obtain ⟨d, rfl⟩ : ∃ e, d = e + 1 := ⟨d - 1, by omega⟩
  refine z_body ck_X3_init rfl (Nat.le_of_ble_eq_true rfl) rfl hst ?_
  show Rn X m_X3_init (d + 1) 0 [(0, .ref 55)] [] Mc_117 _
  refine r_aload_n 0 d_X3_init_0 rfl rfl ?_
  refine r_objInit ml_X3_3 oi_i oi_c (by omega) (Nat.le_of_ble_eq_true rfl) d_X3_init_1 ?_
  refine r_aload_n 0 d_X3_init_4 rfl rfl ?_
  refine r_sipush (500 : Int32) d_X3_init_5 rfl ?_
  refine rc_newa (t := 0) (ty := .int) zc_M117 zc_M119 (i := 56) (Nat.le_of_ble_eq_true rfl) rfl (M2 := Mc_118) rfl rfl (by decide) ac_int (by decide) rfl (Nat.le_of_ble_eq_true rfl) d_X3_init_8 ?_
  refine rc_putF (ci := 3) zc_M118 (Nat.le_of_ble_eq_true rfl) rfl (M2 := Mc_119) rfl p_X3_9 rfl (by simp) rfl d_X3_init_10 ?_
  exact r_vret rfl d_X3_init_13
def Mc_120 : zM := sR Mc_119 23 14 55
theorem zc_M120 : zC0 Mc_120 57 := zc_M119.wR
theorem ct_22 {X : zX} {d : Nat} (hst : (zl X).stackTraces = false) (hd : 3 ≤ d) : Sd X m_X7_init d [.ref 22, .ref 2] Mc_51 (some (.inl none, Mc_120)) := by
  obtain ⟨d, rfl⟩ : ∃ e, d = e + 1 := ⟨d - 1, by omega⟩
  refine z_body ck_X7_init rfl (Nat.le_of_ble_eq_true rfl) rfl hst ?_
  show Rn X m_X7_init (d + 1) 0 [(0, .ref 22), (1, .ref 2)] [] Mc_51 _
  refine r_aload_n 0 d_X7_init_0 rfl rfl ?_
  refine r_objInit ml_X7_5 oi_i oi_c (by omega) (Nat.le_of_ble_eq_true rfl) d_X7_init_1 ?_
  refine r_aload_n 0 d_X7_init_4 rfl rfl ?_
  refine r_bipush (15 : Int32) d_X7_init_5 rfl ?_
  refine rc_anew zc_M51 zc_M120 (i := 23) (Nat.le_of_ble_eq_true rfl) rfl (M2 := Mc_52) rfl cl_X7_11 (by decide) rfl (Nat.le_of_ble_eq_true rfl) d_X7_init_7 ?_
  refine rc_putF (ci := 7) zc_M52 (Nat.le_of_ble_eq_true rfl) rfl (M2 := Mc_53) rfl p_X7_13 rfl (by simp) rfl d_X7_init_10 ?_
  refine r_aload_n 0 d_X7_init_13 rfl rfl ?_
  refine rc_new (ci := 3) zc_M53 zc_M120 (i := 24) (Nat.le_of_ble_eq_true rfl) rfl (M2 := Mc_54) rfl zcf_3 zdv_3 cl_X7_11 it_X3 iz_X3 d_X7_init_14 ?_
  refine r_dup d_X7_init_17 rfl ?_
  refine rc_call (d2 := 0) (av := [.ref 24]) (M2 := Mc_56) zc_M54 zc_M56 zc_M120 (Nat.le_of_ble_eq_true rfl) (Nat.le_of_ble_eq_true rfl) (z_runIN ck_X3_init rfl rfl mn_X7_17 ci_X3_init rfl rfl (Nat.le_of_ble_eq_true rfl) d_X7_init_18) (ct_6 hst (by omega)) ?_
  refine rc_putF (ci := 7) zc_M56 (Nat.le_of_ble_eq_true rfl) rfl (M2 := Mc_57) rfl p_X7_18 rfl (by simp) rfl d_X7_init_21 ?_
  refine r_aload_n 0 d_X7_init_24 rfl rfl ?_
  refine r_sipush (1024 : Int32) d_X7_init_25 rfl ?_
  refine rc_newa (t := 0) (ty := .int) zc_M57 zc_M120 (i := 26) (Nat.le_of_ble_eq_true rfl) rfl (M2 := Mc_58) rfl rfl (by decide) ac_int (by decide) rfl (Nat.le_of_ble_eq_true rfl) d_X7_init_28 ?_
  refine rc_putF (ci := 7) zc_M58 (Nat.le_of_ble_eq_true rfl) rfl (M2 := Mc_59) rfl p_X7_22 rfl (by simp) rfl d_X7_init_30 ?_
  refine r_aload_n 0 d_X7_init_33 rfl rfl ?_
  refine r_aload_n 1 d_X7_init_34 rfl rfl ?_
  refine rc_putF (ci := 7) zc_M59 (Nat.le_of_ble_eq_true rfl) rfl (M2 := Mc_60) rfl p_X7_26 rfl (by simp) rfl d_X7_init_35 ?_
  refine r_iconst (0 : Int32) d_X7_init_38 rfl ?_
  refine r_istore_n (ls' := [(2, .int (0)), (0, .ref 22), (1, .ref 2)]) d_X7_init_39 rfl (Nat.le_of_ble_eq_true rfl) rfl ?_
  refine r_iload_n 0 d_X7_init_40 rfl rfl ?_
  refine r_bipush (15 : Int32) d_X7_init_41 rfl ?_
  refine b_icmp_ge 65 d_X7_init_43 (by decide) (fun h => absurd h (by decide)) (fun _ => ?_)
  refine r_aload_n 1 d_X7_init_46 rfl rfl ?_
  refine rc_getR (ci := 7) (q := 23) zc_M60 (Nat.le_of_ble_eq_true rfl) rfl (by decide +kernel) g_X7_13 rfl d_X7_init_47 ?_
  refine r_iload_n 0 d_X7_init_50 rfl rfl ?_
  refine rc_new (ci := 3) zc_M60 zc_M120 (i := 27) (Nat.le_of_ble_eq_true rfl) rfl (M2 := Mc_61) rfl zcf_3 zdv_3 cl_X7_11 it_X3 iz_X3 d_X7_init_51 ?_
  refine r_dup d_X7_init_54 rfl ?_
  refine rc_call (d2 := 0) (av := [.ref 27]) (M2 := Mc_63) zc_M61 zc_M63 zc_M120 (Nat.le_of_ble_eq_true rfl) (Nat.le_of_ble_eq_true rfl) (z_runIN ck_X3_init rfl rfl mn_X7_17 ci_X3_init rfl rfl (Nat.le_of_ble_eq_true rfl) d_X7_init_55) (ct_7 hst (by omega)) ?_
  refine rc_aast (ci := 3) zc_M63 (Nat.le_of_ble_eq_true rfl) (Nat.le_of_ble_eq_true rfl) rfl rfl rfl (M2 := Mc_64) rfl (T := zT3) rfl (by unfold vp_in; decide) d_X7_init_58 ?_
  refine r_iinc (1 : Int32) 0 (ls' := [(2, .int (1)), (0, .ref 22), (1, .ref 2)]) d_X7_init_59 rfl rfl (Nat.le_of_ble_eq_true rfl) rfl ?_
  refine r_goto 40 d_X7_init_62 (by decide) ?_
  refine r_iload_n 0 d_X7_init_40 rfl rfl ?_
  refine r_bipush (15 : Int32) d_X7_init_41 rfl ?_
  refine b_icmp_ge 65 d_X7_init_43 (by decide) (fun h => absurd h (by decide)) (fun _ => ?_)
  refine r_aload_n 1 d_X7_init_46 rfl rfl ?_
  refine rc_getR (ci := 7) (q := 23) zc_M64 (Nat.le_of_ble_eq_true rfl) rfl (by decide +kernel) g_X7_13 rfl d_X7_init_47 ?_
  refine r_iload_n 0 d_X7_init_50 rfl rfl ?_
  refine rc_new (ci := 3) zc_M64 zc_M120 (i := 29) (Nat.le_of_ble_eq_true rfl) rfl (M2 := Mc_65) rfl zcf_3 zdv_3 cl_X7_11 it_X3 iz_X3 d_X7_init_51 ?_
  refine r_dup d_X7_init_54 rfl ?_
  refine rc_call (d2 := 0) (av := [.ref 29]) (M2 := Mc_67) zc_M65 zc_M67 zc_M120 (Nat.le_of_ble_eq_true rfl) (Nat.le_of_ble_eq_true rfl) (z_runIN ck_X3_init rfl rfl mn_X7_17 ci_X3_init rfl rfl (Nat.le_of_ble_eq_true rfl) d_X7_init_55) (ct_8 hst (by omega)) ?_
  refine rc_aast (ci := 3) zc_M67 (Nat.le_of_ble_eq_true rfl) (Nat.le_of_ble_eq_true rfl) rfl rfl rfl (M2 := Mc_68) rfl (T := zT3) rfl (by unfold vp_in; decide) d_X7_init_58 ?_
  refine r_iinc (2 : Int32) 0 (ls' := [(2, .int (2)), (0, .ref 22), (1, .ref 2)]) d_X7_init_59 rfl rfl (Nat.le_of_ble_eq_true rfl) rfl ?_
  refine r_goto 40 d_X7_init_62 (by decide) ?_
  refine r_iload_n 0 d_X7_init_40 rfl rfl ?_
  refine r_bipush (15 : Int32) d_X7_init_41 rfl ?_
  refine b_icmp_ge 65 d_X7_init_43 (by decide) (fun h => absurd h (by decide)) (fun _ => ?_)
  refine r_aload_n 1 d_X7_init_46 rfl rfl ?_
  refine rc_getR (ci := 7) (q := 23) zc_M68 (Nat.le_of_ble_eq_true rfl) rfl (by decide +kernel) g_X7_13 rfl d_X7_init_47 ?_
  refine r_iload_n 0 d_X7_init_50 rfl rfl ?_
  refine rc_new (ci := 3) zc_M68 zc_M120 (i := 31) (Nat.le_of_ble_eq_true rfl) rfl (M2 := Mc_69) rfl zcf_3 zdv_3 cl_X7_11 it_X3 iz_X3 d_X7_init_51 ?_
  refine r_dup d_X7_init_54 rfl ?_
  refine rc_call (d2 := 0) (av := [.ref 31]) (M2 := Mc_71) zc_M69 zc_M71 zc_M120 (Nat.le_of_ble_eq_true rfl) (Nat.le_of_ble_eq_true rfl) (z_runIN ck_X3_init rfl rfl mn_X7_17 ci_X3_init rfl rfl (Nat.le_of_ble_eq_true rfl) d_X7_init_55) (ct_9 hst (by omega)) ?_
  refine rc_aast (ci := 3) zc_M71 (Nat.le_of_ble_eq_true rfl) (Nat.le_of_ble_eq_true rfl) rfl rfl rfl (M2 := Mc_72) rfl (T := zT3) rfl (by unfold vp_in; decide) d_X7_init_58 ?_
  refine r_iinc (3 : Int32) 0 (ls' := [(2, .int (3)), (0, .ref 22), (1, .ref 2)]) d_X7_init_59 rfl rfl (Nat.le_of_ble_eq_true rfl) rfl ?_
  refine r_goto 40 d_X7_init_62 (by decide) ?_
  refine r_iload_n 0 d_X7_init_40 rfl rfl ?_
  refine r_bipush (15 : Int32) d_X7_init_41 rfl ?_
  refine b_icmp_ge 65 d_X7_init_43 (by decide) (fun h => absurd h (by decide)) (fun _ => ?_)
  refine r_aload_n 1 d_X7_init_46 rfl rfl ?_
  refine rc_getR (ci := 7) (q := 23) zc_M72 (Nat.le_of_ble_eq_true rfl) rfl (by decide +kernel) g_X7_13 rfl d_X7_init_47 ?_
  refine r_iload_n 0 d_X7_init_50 rfl rfl ?_
  refine rc_new (ci := 3) zc_M72 zc_M120 (i := 33) (Nat.le_of_ble_eq_true rfl) rfl (M2 := Mc_73) rfl zcf_3 zdv_3 cl_X7_11 it_X3 iz_X3 d_X7_init_51 ?_
  refine r_dup d_X7_init_54 rfl ?_
  refine rc_call (d2 := 0) (av := [.ref 33]) (M2 := Mc_75) zc_M73 zc_M75 zc_M120 (Nat.le_of_ble_eq_true rfl) (Nat.le_of_ble_eq_true rfl) (z_runIN ck_X3_init rfl rfl mn_X7_17 ci_X3_init rfl rfl (Nat.le_of_ble_eq_true rfl) d_X7_init_55) (ct_10 hst (by omega)) ?_
  refine rc_aast (ci := 3) zc_M75 (Nat.le_of_ble_eq_true rfl) (Nat.le_of_ble_eq_true rfl) rfl rfl rfl (M2 := Mc_76) rfl (T := zT3) rfl (by unfold vp_in; decide) d_X7_init_58 ?_
  refine r_iinc (4 : Int32) 0 (ls' := [(2, .int (4)), (0, .ref 22), (1, .ref 2)]) d_X7_init_59 rfl rfl (Nat.le_of_ble_eq_true rfl) rfl ?_
  refine r_goto 40 d_X7_init_62 (by decide) ?_
  refine r_iload_n 0 d_X7_init_40 rfl rfl ?_
  refine r_bipush (15 : Int32) d_X7_init_41 rfl ?_
  refine b_icmp_ge 65 d_X7_init_43 (by decide) (fun h => absurd h (by decide)) (fun _ => ?_)
  refine r_aload_n 1 d_X7_init_46 rfl rfl ?_
  refine rc_getR (ci := 7) (q := 23) zc_M76 (Nat.le_of_ble_eq_true rfl) rfl (by decide +kernel) g_X7_13 rfl d_X7_init_47 ?_
  refine r_iload_n 0 d_X7_init_50 rfl rfl ?_
  refine rc_new (ci := 3) zc_M76 zc_M120 (i := 35) (Nat.le_of_ble_eq_true rfl) rfl (M2 := Mc_77) rfl zcf_3 zdv_3 cl_X7_11 it_X3 iz_X3 d_X7_init_51 ?_
  refine r_dup d_X7_init_54 rfl ?_
  refine rc_call (d2 := 0) (av := [.ref 35]) (M2 := Mc_79) zc_M77 zc_M79 zc_M120 (Nat.le_of_ble_eq_true rfl) (Nat.le_of_ble_eq_true rfl) (z_runIN ck_X3_init rfl rfl mn_X7_17 ci_X3_init rfl rfl (Nat.le_of_ble_eq_true rfl) d_X7_init_55) (ct_11 hst (by omega)) ?_
  refine rc_aast (ci := 3) zc_M79 (Nat.le_of_ble_eq_true rfl) (Nat.le_of_ble_eq_true rfl) rfl rfl rfl (M2 := Mc_80) rfl (T := zT3) rfl (by unfold vp_in; decide) d_X7_init_58 ?_
  refine r_iinc (5 : Int32) 0 (ls' := [(2, .int (5)), (0, .ref 22), (1, .ref 2)]) d_X7_init_59 rfl rfl (Nat.le_of_ble_eq_true rfl) rfl ?_
  refine r_goto 40 d_X7_init_62 (by decide) ?_
  refine r_iload_n 0 d_X7_init_40 rfl rfl ?_
  refine r_bipush (15 : Int32) d_X7_init_41 rfl ?_
  refine b_icmp_ge 65 d_X7_init_43 (by decide) (fun h => absurd h (by decide)) (fun _ => ?_)
  refine r_aload_n 1 d_X7_init_46 rfl rfl ?_
  refine rc_getR (ci := 7) (q := 23) zc_M80 (Nat.le_of_ble_eq_true rfl) rfl (by decide +kernel) g_X7_13 rfl d_X7_init_47 ?_
  refine r_iload_n 0 d_X7_init_50 rfl rfl ?_
  refine rc_new (ci := 3) zc_M80 zc_M120 (i := 37) (Nat.le_of_ble_eq_true rfl) rfl (M2 := Mc_81) rfl zcf_3 zdv_3 cl_X7_11 it_X3 iz_X3 d_X7_init_51 ?_
  refine r_dup d_X7_init_54 rfl ?_
  refine rc_call (d2 := 0) (av := [.ref 37]) (M2 := Mc_83) zc_M81 zc_M83 zc_M120 (Nat.le_of_ble_eq_true rfl) (Nat.le_of_ble_eq_true rfl) (z_runIN ck_X3_init rfl rfl mn_X7_17 ci_X3_init rfl rfl (Nat.le_of_ble_eq_true rfl) d_X7_init_55) (ct_12 hst (by omega)) ?_
  refine rc_aast (ci := 3) zc_M83 (Nat.le_of_ble_eq_true rfl) (Nat.le_of_ble_eq_true rfl) rfl rfl rfl (M2 := Mc_84) rfl (T := zT3) rfl (by unfold vp_in; decide) d_X7_init_58 ?_
  refine r_iinc (6 : Int32) 0 (ls' := [(2, .int (6)), (0, .ref 22), (1, .ref 2)]) d_X7_init_59 rfl rfl (Nat.le_of_ble_eq_true rfl) rfl ?_
  refine r_goto 40 d_X7_init_62 (by decide) ?_
  refine r_iload_n 0 d_X7_init_40 rfl rfl ?_
  refine r_bipush (15 : Int32) d_X7_init_41 rfl ?_
  refine b_icmp_ge 65 d_X7_init_43 (by decide) (fun h => absurd h (by decide)) (fun _ => ?_)
  refine r_aload_n 1 d_X7_init_46 rfl rfl ?_
  refine rc_getR (ci := 7) (q := 23) zc_M84 (Nat.le_of_ble_eq_true rfl) rfl (by decide +kernel) g_X7_13 rfl d_X7_init_47 ?_
  refine r_iload_n 0 d_X7_init_50 rfl rfl ?_
  refine rc_new (ci := 3) zc_M84 zc_M120 (i := 39) (Nat.le_of_ble_eq_true rfl) rfl (M2 := Mc_85) rfl zcf_3 zdv_3 cl_X7_11 it_X3 iz_X3 d_X7_init_51 ?_
  refine r_dup d_X7_init_54 rfl ?_
  refine rc_call (d2 := 0) (av := [.ref 39]) (M2 := Mc_87) zc_M85 zc_M87 zc_M120 (Nat.le_of_ble_eq_true rfl) (Nat.le_of_ble_eq_true rfl) (z_runIN ck_X3_init rfl rfl mn_X7_17 ci_X3_init rfl rfl (Nat.le_of_ble_eq_true rfl) d_X7_init_55) (ct_13 hst (by omega)) ?_
  refine rc_aast (ci := 3) zc_M87 (Nat.le_of_ble_eq_true rfl) (Nat.le_of_ble_eq_true rfl) rfl rfl rfl (M2 := Mc_88) rfl (T := zT3) rfl (by unfold vp_in; decide) d_X7_init_58 ?_
  refine r_iinc (7 : Int32) 0 (ls' := [(2, .int (7)), (0, .ref 22), (1, .ref 2)]) d_X7_init_59 rfl rfl (Nat.le_of_ble_eq_true rfl) rfl ?_
  refine r_goto 40 d_X7_init_62 (by decide) ?_
  refine r_iload_n 0 d_X7_init_40 rfl rfl ?_
  refine r_bipush (15 : Int32) d_X7_init_41 rfl ?_
  refine b_icmp_ge 65 d_X7_init_43 (by decide) (fun h => absurd h (by decide)) (fun _ => ?_)
  refine r_aload_n 1 d_X7_init_46 rfl rfl ?_
  refine rc_getR (ci := 7) (q := 23) zc_M88 (Nat.le_of_ble_eq_true rfl) rfl (by decide +kernel) g_X7_13 rfl d_X7_init_47 ?_
  refine r_iload_n 0 d_X7_init_50 rfl rfl ?_
  refine rc_new (ci := 3) zc_M88 zc_M120 (i := 41) (Nat.le_of_ble_eq_true rfl) rfl (M2 := Mc_89) rfl zcf_3 zdv_3 cl_X7_11 it_X3 iz_X3 d_X7_init_51 ?_
  refine r_dup d_X7_init_54 rfl ?_
  refine rc_call (d2 := 0) (av := [.ref 41]) (M2 := Mc_91) zc_M89 zc_M91 zc_M120 (Nat.le_of_ble_eq_true rfl) (Nat.le_of_ble_eq_true rfl) (z_runIN ck_X3_init rfl rfl mn_X7_17 ci_X3_init rfl rfl (Nat.le_of_ble_eq_true rfl) d_X7_init_55) (ct_14 hst (by omega)) ?_
  refine rc_aast (ci := 3) zc_M91 (Nat.le_of_ble_eq_true rfl) (Nat.le_of_ble_eq_true rfl) rfl rfl rfl (M2 := Mc_92) rfl (T := zT3) rfl (by unfold vp_in; decide) d_X7_init_58 ?_
  refine r_iinc (8 : Int32) 0 (ls' := [(2, .int (8)), (0, .ref 22), (1, .ref 2)]) d_X7_init_59 rfl rfl (Nat.le_of_ble_eq_true rfl) rfl ?_
  refine r_goto 40 d_X7_init_62 (by decide) ?_
  refine r_iload_n 0 d_X7_init_40 rfl rfl ?_
  refine r_bipush (15 : Int32) d_X7_init_41 rfl ?_
  refine b_icmp_ge 65 d_X7_init_43 (by decide) (fun h => absurd h (by decide)) (fun _ => ?_)
  refine r_aload_n 1 d_X7_init_46 rfl rfl ?_
  refine rc_getR (ci := 7) (q := 23) zc_M92 (Nat.le_of_ble_eq_true rfl) rfl (by decide +kernel) g_X7_13 rfl d_X7_init_47 ?_
  refine r_iload_n 0 d_X7_init_50 rfl rfl ?_
  refine rc_new (ci := 3) zc_M92 zc_M120 (i := 43) (Nat.le_of_ble_eq_true rfl) rfl (M2 := Mc_93) rfl zcf_3 zdv_3 cl_X7_11 it_X3 iz_X3 d_X7_init_51 ?_
  refine r_dup d_X7_init_54 rfl ?_
  refine rc_call (d2 := 0) (av := [.ref 43]) (M2 := Mc_95) zc_M93 zc_M95 zc_M120 (Nat.le_of_ble_eq_true rfl) (Nat.le_of_ble_eq_true rfl) (z_runIN ck_X3_init rfl rfl mn_X7_17 ci_X3_init rfl rfl (Nat.le_of_ble_eq_true rfl) d_X7_init_55) (ct_15 hst (by omega)) ?_
  refine rc_aast (ci := 3) zc_M95 (Nat.le_of_ble_eq_true rfl) (Nat.le_of_ble_eq_true rfl) rfl rfl rfl (M2 := Mc_96) rfl (T := zT3) rfl (by unfold vp_in; decide) d_X7_init_58 ?_
  refine r_iinc (9 : Int32) 0 (ls' := [(2, .int (9)), (0, .ref 22), (1, .ref 2)]) d_X7_init_59 rfl rfl (Nat.le_of_ble_eq_true rfl) rfl ?_
  refine r_goto 40 d_X7_init_62 (by decide) ?_
  refine r_iload_n 0 d_X7_init_40 rfl rfl ?_
  refine r_bipush (15 : Int32) d_X7_init_41 rfl ?_
  refine b_icmp_ge 65 d_X7_init_43 (by decide) (fun h => absurd h (by decide)) (fun _ => ?_)
  refine r_aload_n 1 d_X7_init_46 rfl rfl ?_
  refine rc_getR (ci := 7) (q := 23) zc_M96 (Nat.le_of_ble_eq_true rfl) rfl (by decide +kernel) g_X7_13 rfl d_X7_init_47 ?_
  refine r_iload_n 0 d_X7_init_50 rfl rfl ?_
  refine rc_new (ci := 3) zc_M96 zc_M120 (i := 45) (Nat.le_of_ble_eq_true rfl) rfl (M2 := Mc_97) rfl zcf_3 zdv_3 cl_X7_11 it_X3 iz_X3 d_X7_init_51 ?_
  refine r_dup d_X7_init_54 rfl ?_
  refine rc_call (d2 := 0) (av := [.ref 45]) (M2 := Mc_99) zc_M97 zc_M99 zc_M120 (Nat.le_of_ble_eq_true rfl) (Nat.le_of_ble_eq_true rfl) (z_runIN ck_X3_init rfl rfl mn_X7_17 ci_X3_init rfl rfl (Nat.le_of_ble_eq_true rfl) d_X7_init_55) (ct_16 hst (by omega)) ?_
  refine rc_aast (ci := 3) zc_M99 (Nat.le_of_ble_eq_true rfl) (Nat.le_of_ble_eq_true rfl) rfl rfl rfl (M2 := Mc_100) rfl (T := zT3) rfl (by unfold vp_in; decide) d_X7_init_58 ?_
  refine r_iinc (10 : Int32) 0 (ls' := [(2, .int (10)), (0, .ref 22), (1, .ref 2)]) d_X7_init_59 rfl rfl (Nat.le_of_ble_eq_true rfl) rfl ?_
  refine r_goto 40 d_X7_init_62 (by decide) ?_
  refine r_iload_n 0 d_X7_init_40 rfl rfl ?_
  refine r_bipush (15 : Int32) d_X7_init_41 rfl ?_
  refine b_icmp_ge 65 d_X7_init_43 (by decide) (fun h => absurd h (by decide)) (fun _ => ?_)
  refine r_aload_n 1 d_X7_init_46 rfl rfl ?_
  refine rc_getR (ci := 7) (q := 23) zc_M100 (Nat.le_of_ble_eq_true rfl) rfl (by decide +kernel) g_X7_13 rfl d_X7_init_47 ?_
  refine r_iload_n 0 d_X7_init_50 rfl rfl ?_
  refine rc_new (ci := 3) zc_M100 zc_M120 (i := 47) (Nat.le_of_ble_eq_true rfl) rfl (M2 := Mc_101) rfl zcf_3 zdv_3 cl_X7_11 it_X3 iz_X3 d_X7_init_51 ?_
  refine r_dup d_X7_init_54 rfl ?_
  refine rc_call (d2 := 0) (av := [.ref 47]) (M2 := Mc_103) zc_M101 zc_M103 zc_M120 (Nat.le_of_ble_eq_true rfl) (Nat.le_of_ble_eq_true rfl) (z_runIN ck_X3_init rfl rfl mn_X7_17 ci_X3_init rfl rfl (Nat.le_of_ble_eq_true rfl) d_X7_init_55) (ct_17 hst (by omega)) ?_
  refine rc_aast (ci := 3) zc_M103 (Nat.le_of_ble_eq_true rfl) (Nat.le_of_ble_eq_true rfl) rfl rfl rfl (M2 := Mc_104) rfl (T := zT3) rfl (by unfold vp_in; decide) d_X7_init_58 ?_
  refine r_iinc (11 : Int32) 0 (ls' := [(2, .int (11)), (0, .ref 22), (1, .ref 2)]) d_X7_init_59 rfl rfl (Nat.le_of_ble_eq_true rfl) rfl ?_
  refine r_goto 40 d_X7_init_62 (by decide) ?_
  refine r_iload_n 0 d_X7_init_40 rfl rfl ?_
  refine r_bipush (15 : Int32) d_X7_init_41 rfl ?_
  refine b_icmp_ge 65 d_X7_init_43 (by decide) (fun h => absurd h (by decide)) (fun _ => ?_)
  refine r_aload_n 1 d_X7_init_46 rfl rfl ?_
  refine rc_getR (ci := 7) (q := 23) zc_M104 (Nat.le_of_ble_eq_true rfl) rfl (by decide +kernel) g_X7_13 rfl d_X7_init_47 ?_
  refine r_iload_n 0 d_X7_init_50 rfl rfl ?_
  refine rc_new (ci := 3) zc_M104 zc_M120 (i := 49) (Nat.le_of_ble_eq_true rfl) rfl (M2 := Mc_105) rfl zcf_3 zdv_3 cl_X7_11 it_X3 iz_X3 d_X7_init_51 ?_
  refine r_dup d_X7_init_54 rfl ?_
  refine rc_call (d2 := 0) (av := [.ref 49]) (M2 := Mc_107) zc_M105 zc_M107 zc_M120 (Nat.le_of_ble_eq_true rfl) (Nat.le_of_ble_eq_true rfl) (z_runIN ck_X3_init rfl rfl mn_X7_17 ci_X3_init rfl rfl (Nat.le_of_ble_eq_true rfl) d_X7_init_55) (ct_18 hst (by omega)) ?_
  refine rc_aast (ci := 3) zc_M107 (Nat.le_of_ble_eq_true rfl) (Nat.le_of_ble_eq_true rfl) rfl rfl rfl (M2 := Mc_108) rfl (T := zT3) rfl (by unfold vp_in; decide) d_X7_init_58 ?_
  refine r_iinc (12 : Int32) 0 (ls' := [(2, .int (12)), (0, .ref 22), (1, .ref 2)]) d_X7_init_59 rfl rfl (Nat.le_of_ble_eq_true rfl) rfl ?_
  refine r_goto 40 d_X7_init_62 (by decide) ?_
  refine r_iload_n 0 d_X7_init_40 rfl rfl ?_
  refine r_bipush (15 : Int32) d_X7_init_41 rfl ?_
  refine b_icmp_ge 65 d_X7_init_43 (by decide) (fun h => absurd h (by decide)) (fun _ => ?_)
  refine r_aload_n 1 d_X7_init_46 rfl rfl ?_
  refine rc_getR (ci := 7) (q := 23) zc_M108 (Nat.le_of_ble_eq_true rfl) rfl (by decide +kernel) g_X7_13 rfl d_X7_init_47 ?_
  refine r_iload_n 0 d_X7_init_50 rfl rfl ?_
  refine rc_new (ci := 3) zc_M108 zc_M120 (i := 51) (Nat.le_of_ble_eq_true rfl) rfl (M2 := Mc_109) rfl zcf_3 zdv_3 cl_X7_11 it_X3 iz_X3 d_X7_init_51 ?_
  refine r_dup d_X7_init_54 rfl ?_
  refine rc_call (d2 := 0) (av := [.ref 51]) (M2 := Mc_111) zc_M109 zc_M111 zc_M120 (Nat.le_of_ble_eq_true rfl) (Nat.le_of_ble_eq_true rfl) (z_runIN ck_X3_init rfl rfl mn_X7_17 ci_X3_init rfl rfl (Nat.le_of_ble_eq_true rfl) d_X7_init_55) (ct_19 hst (by omega)) ?_
  refine rc_aast (ci := 3) zc_M111 (Nat.le_of_ble_eq_true rfl) (Nat.le_of_ble_eq_true rfl) rfl rfl rfl (M2 := Mc_112) rfl (T := zT3) rfl (by unfold vp_in; decide) d_X7_init_58 ?_
  refine r_iinc (13 : Int32) 0 (ls' := [(2, .int (13)), (0, .ref 22), (1, .ref 2)]) d_X7_init_59 rfl rfl (Nat.le_of_ble_eq_true rfl) rfl ?_
  refine r_goto 40 d_X7_init_62 (by decide) ?_
  refine r_iload_n 0 d_X7_init_40 rfl rfl ?_
  refine r_bipush (15 : Int32) d_X7_init_41 rfl ?_
  refine b_icmp_ge 65 d_X7_init_43 (by decide) (fun h => absurd h (by decide)) (fun _ => ?_)
  refine r_aload_n 1 d_X7_init_46 rfl rfl ?_
  refine rc_getR (ci := 7) (q := 23) zc_M112 (Nat.le_of_ble_eq_true rfl) rfl (by decide +kernel) g_X7_13 rfl d_X7_init_47 ?_
  refine r_iload_n 0 d_X7_init_50 rfl rfl ?_
  refine rc_new (ci := 3) zc_M112 zc_M120 (i := 53) (Nat.le_of_ble_eq_true rfl) rfl (M2 := Mc_113) rfl zcf_3 zdv_3 cl_X7_11 it_X3 iz_X3 d_X7_init_51 ?_
  refine r_dup d_X7_init_54 rfl ?_
  refine rc_call (d2 := 0) (av := [.ref 53]) (M2 := Mc_115) zc_M113 zc_M115 zc_M120 (Nat.le_of_ble_eq_true rfl) (Nat.le_of_ble_eq_true rfl) (z_runIN ck_X3_init rfl rfl mn_X7_17 ci_X3_init rfl rfl (Nat.le_of_ble_eq_true rfl) d_X7_init_55) (ct_20 hst (by omega)) ?_
  refine rc_aast (ci := 3) zc_M115 (Nat.le_of_ble_eq_true rfl) (Nat.le_of_ble_eq_true rfl) rfl rfl rfl (M2 := Mc_116) rfl (T := zT3) rfl (by unfold vp_in; decide) d_X7_init_58 ?_
  refine r_iinc (14 : Int32) 0 (ls' := [(2, .int (14)), (0, .ref 22), (1, .ref 2)]) d_X7_init_59 rfl rfl (Nat.le_of_ble_eq_true rfl) rfl ?_
  refine r_goto 40 d_X7_init_62 (by decide) ?_
  refine r_iload_n 0 d_X7_init_40 rfl rfl ?_
  refine r_bipush (15 : Int32) d_X7_init_41 rfl ?_
  refine b_icmp_ge 65 d_X7_init_43 (by decide) (fun h => absurd h (by decide)) (fun _ => ?_)
  refine r_aload_n 1 d_X7_init_46 rfl rfl ?_
  refine rc_getR (ci := 7) (q := 23) zc_M116 (Nat.le_of_ble_eq_true rfl) rfl (by decide +kernel) g_X7_13 rfl d_X7_init_47 ?_
  refine r_iload_n 0 d_X7_init_50 rfl rfl ?_
  refine rc_new (ci := 3) zc_M116 zc_M120 (i := 55) (Nat.le_of_ble_eq_true rfl) rfl (M2 := Mc_117) rfl zcf_3 zdv_3 cl_X7_11 it_X3 iz_X3 d_X7_init_51 ?_
  refine r_dup d_X7_init_54 rfl ?_
  refine rc_call (d2 := 0) (av := [.ref 55]) (M2 := Mc_119) zc_M117 zc_M119 zc_M120 (Nat.le_of_ble_eq_true rfl) (Nat.le_of_ble_eq_true rfl) (z_runIN ck_X3_init rfl rfl mn_X7_17 ci_X3_init rfl rfl (Nat.le_of_ble_eq_true rfl) d_X7_init_55) (ct_21 hst (by omega)) ?_
  refine rc_aast (ci := 3) zc_M119 (Nat.le_of_ble_eq_true rfl) (Nat.le_of_ble_eq_true rfl) rfl rfl rfl (M2 := Mc_120) rfl (T := zT3) rfl (by unfold vp_in; decide) d_X7_init_58 ?_
  refine r_iinc (15 : Int32) 0 (ls' := [(2, .int (15)), (0, .ref 22), (1, .ref 2)]) d_X7_init_59 rfl rfl (Nat.le_of_ble_eq_true rfl) rfl ?_
  refine r_goto 40 d_X7_init_62 (by decide) ?_
  refine r_iload_n 0 d_X7_init_40 rfl rfl ?_
  refine r_bipush (15 : Int32) d_X7_init_41 rfl ?_
  refine b_icmp_ge 65 d_X7_init_43 (by decide) (fun _ => ?_) (fun h => absurd (by decide) h)
  exact r_vret rfl d_X7_init_65
def Mc_121 : zM := sR Mc_120 0 5 22
theorem zc_M121 : zC0 Mc_121 57 := zc_M120.wR
def Mc_122 : zM := zAl Mc_121 (16, 8)
theorem zc_M122 : zC0 Mc_122 58 := zc_M121.al rfl
def Mc_123 : zM := zAl Mc_122 (0, 6)
theorem zc_M123 : zC0 Mc_123 59 := zc_M122.al rfl
def Mc_124 : zM := sR Mc_123 57 3 58
theorem zc_M124 : zC0 Mc_124 59 := zc_M123.wR
def Mc_125 : zM := zAl Mc_124 (0, 6)
theorem zc_M125 : zC0 Mc_125 60 := zc_M124.al rfl
def Mc_126 : zM := sR Mc_125 57 4 59
theorem zc_M126 : zC0 Mc_126 60 := zc_M125.wR
def Mc_127 : zM := zAl Mc_126 (0, 8)
theorem zc_M127 : zC0 Mc_127 61 := zc_M126.al rfl
def Mc_128 : zM := sR Mc_127 57 5 60
theorem zc_M128 : zC0 Mc_128 61 := zc_M127.wR
def Mc_129 : zM := zAl Mc_128 (0, 8)
theorem zc_M129 : zC0 Mc_129 62 := zc_M128.al rfl
def Mc_130 : zM := sR Mc_129 57 6 61
theorem zc_M130 : zC0 Mc_130 62 := zc_M129.wR
def Mc_131 : zM := zAl Mc_130 (0, 8)
theorem zc_M131 : zC0 Mc_131 63 := zc_M130.al rfl
def Mc_132 : zM := sR Mc_131 57 7 62
theorem zc_M132 : zC0 Mc_132 63 := zc_M131.wR
theorem ct_23 {X : zX} {d : Nat} (hst : (zl X).stackTraces = false) (hd : 2 ≤ d) : Sd X m_X9_init d [.ref 57] Mc_122 (some (.inl none, Mc_132)) := by
  obtain ⟨d, rfl⟩ : ∃ e, d = e + 1 := ⟨d - 1, by omega⟩
  refine z_body ck_X9_init rfl (Nat.le_of_ble_eq_true rfl) rfl hst ?_
  show Rn X m_X9_init (d + 1) 0 [(0, .ref 57)] [] Mc_122 _
  refine r_aload_n 0 d_X9_init_0 rfl rfl ?_
  refine r_objInit ml_X9_3 oi_i oi_c (by omega) (Nat.le_of_ble_eq_true rfl) d_X9_init_1 ?_
  refine r_aload_n 0 d_X9_init_4 rfl rfl ?_
  refine r_bipush (6 : Int32) d_X9_init_5 rfl ?_
  refine rc_newa (t := 0) (ty := .int) zc_M122 zc_M132 (i := 58) (Nat.le_of_ble_eq_true rfl) rfl (M2 := Mc_123) rfl rfl (by decide) ac_int (by decide) rfl (Nat.le_of_ble_eq_true rfl) d_X9_init_7 ?_
  refine rc_putF (ci := 9) zc_M123 (Nat.le_of_ble_eq_true rfl) rfl (M2 := Mc_124) rfl p_X9_9 rfl (by simp) rfl d_X9_init_9 ?_
  refine r_aload_n 0 d_X9_init_12 rfl rfl ?_
  refine r_bipush (6 : Int32) d_X9_init_13 rfl ?_
  refine rc_newa (t := 0) (ty := .int) zc_M124 zc_M132 (i := 59) (Nat.le_of_ble_eq_true rfl) rfl (M2 := Mc_125) rfl rfl (by decide) ac_int (by decide) rfl (Nat.le_of_ble_eq_true rfl) d_X9_init_15 ?_
  refine rc_putF (ci := 9) zc_M125 (Nat.le_of_ble_eq_true rfl) rfl (M2 := Mc_126) rfl p_X9_15 rfl (by simp) rfl d_X9_init_17 ?_
  refine r_aload_n 0 d_X9_init_20 rfl rfl ?_
  refine r_bipush (8 : Int32) d_X9_init_21 rfl ?_
  refine rc_newa (t := 0) (ty := .int) zc_M126 zc_M132 (i := 60) (Nat.le_of_ble_eq_true rfl) rfl (M2 := Mc_127) rfl rfl (by decide) ac_int (by decide) rfl (Nat.le_of_ble_eq_true rfl) d_X9_init_23 ?_
  refine rc_putF (ci := 9) zc_M127 (Nat.le_of_ble_eq_true rfl) rfl (M2 := Mc_128) rfl p_X9_18 rfl (by simp) rfl d_X9_init_25 ?_
  refine r_aload_n 0 d_X9_init_28 rfl rfl ?_
  refine r_bipush (8 : Int32) d_X9_init_29 rfl ?_
  refine rc_newa (t := 0) (ty := .int) zc_M128 zc_M132 (i := 61) (Nat.le_of_ble_eq_true rfl) rfl (M2 := Mc_129) rfl rfl (by decide) ac_int (by decide) rfl (Nat.le_of_ble_eq_true rfl) d_X9_init_31 ?_
  refine rc_putF (ci := 9) zc_M129 (Nat.le_of_ble_eq_true rfl) rfl (M2 := Mc_130) rfl p_X9_21 rfl (by simp) rfl d_X9_init_33 ?_
  refine r_aload_n 0 d_X9_init_36 rfl rfl ?_
  refine r_bipush (8 : Int32) d_X9_init_37 rfl ?_
  refine rc_newa (t := 0) (ty := .int) zc_M130 zc_M132 (i := 62) (Nat.le_of_ble_eq_true rfl) rfl (M2 := Mc_131) rfl rfl (by decide) ac_int (by decide) rfl (Nat.le_of_ble_eq_true rfl) d_X9_init_39 ?_
  refine rc_putF (ci := 9) zc_M131 (Nat.le_of_ble_eq_true rfl) rfl (M2 := Mc_132) rfl p_X9_24 rfl (by simp) rfl d_X9_init_41 ?_
  exact r_vret rfl d_X9_init_44
def Mc_133 : zM := sR Mc_132 0 6 57
theorem zc_M133 : zC0 Mc_133 63 := zc_M132.wR
def Mc_134 : zM := zAl Mc_133 (16, 8)
theorem zc_M134 : zC0 Mc_134 64 := zc_M133.al rfl
def Mc_135 : zM := zAl Mc_134 (0, 6)
theorem zc_M135 : zC0 Mc_135 65 := zc_M134.al rfl
def Mc_136 : zM := sR Mc_135 63 3 64
theorem zc_M136 : zC0 Mc_136 65 := zc_M135.wR
def Mc_137 : zM := zAl Mc_136 (0, 6)
theorem zc_M137 : zC0 Mc_137 66 := zc_M136.al rfl
def Mc_138 : zM := sR Mc_137 63 4 65
theorem zc_M138 : zC0 Mc_138 66 := zc_M137.wR
def Mc_139 : zM := zAl Mc_138 (0, 8)
theorem zc_M139 : zC0 Mc_139 67 := zc_M138.al rfl
def Mc_140 : zM := sR Mc_139 63 5 66
theorem zc_M140 : zC0 Mc_140 67 := zc_M139.wR
def Mc_141 : zM := zAl Mc_140 (0, 8)
theorem zc_M141 : zC0 Mc_141 68 := zc_M140.al rfl
def Mc_142 : zM := sR Mc_141 63 6 67
theorem zc_M142 : zC0 Mc_142 68 := zc_M141.wR
def Mc_143 : zM := zAl Mc_142 (0, 8)
theorem zc_M143 : zC0 Mc_143 69 := zc_M142.al rfl
def Mc_144 : zM := sR Mc_143 63 7 68
theorem zc_M144 : zC0 Mc_144 69 := zc_M143.wR
theorem ct_24 {X : zX} {d : Nat} (hst : (zl X).stackTraces = false) (hd : 2 ≤ d) : Sd X m_X9_init d [.ref 63] Mc_134 (some (.inl none, Mc_144)) := by
  obtain ⟨d, rfl⟩ : ∃ e, d = e + 1 := ⟨d - 1, by omega⟩
  refine z_body ck_X9_init rfl (Nat.le_of_ble_eq_true rfl) rfl hst ?_
  show Rn X m_X9_init (d + 1) 0 [(0, .ref 63)] [] Mc_134 _
  refine r_aload_n 0 d_X9_init_0 rfl rfl ?_
  refine r_objInit ml_X9_3 oi_i oi_c (by omega) (Nat.le_of_ble_eq_true rfl) d_X9_init_1 ?_
  refine r_aload_n 0 d_X9_init_4 rfl rfl ?_
  refine r_bipush (6 : Int32) d_X9_init_5 rfl ?_
  refine rc_newa (t := 0) (ty := .int) zc_M134 zc_M144 (i := 64) (Nat.le_of_ble_eq_true rfl) rfl (M2 := Mc_135) rfl rfl (by decide) ac_int (by decide) rfl (Nat.le_of_ble_eq_true rfl) d_X9_init_7 ?_
  refine rc_putF (ci := 9) zc_M135 (Nat.le_of_ble_eq_true rfl) rfl (M2 := Mc_136) rfl p_X9_9 rfl (by simp) rfl d_X9_init_9 ?_
  refine r_aload_n 0 d_X9_init_12 rfl rfl ?_
  refine r_bipush (6 : Int32) d_X9_init_13 rfl ?_
  refine rc_newa (t := 0) (ty := .int) zc_M136 zc_M144 (i := 65) (Nat.le_of_ble_eq_true rfl) rfl (M2 := Mc_137) rfl rfl (by decide) ac_int (by decide) rfl (Nat.le_of_ble_eq_true rfl) d_X9_init_15 ?_
  refine rc_putF (ci := 9) zc_M137 (Nat.le_of_ble_eq_true rfl) rfl (M2 := Mc_138) rfl p_X9_15 rfl (by simp) rfl d_X9_init_17 ?_
  refine r_aload_n 0 d_X9_init_20 rfl rfl ?_
  refine r_bipush (8 : Int32) d_X9_init_21 rfl ?_
  refine rc_newa (t := 0) (ty := .int) zc_M138 zc_M144 (i := 66) (Nat.le_of_ble_eq_true rfl) rfl (M2 := Mc_139) rfl rfl (by decide) ac_int (by decide) rfl (Nat.le_of_ble_eq_true rfl) d_X9_init_23 ?_
  refine rc_putF (ci := 9) zc_M139 (Nat.le_of_ble_eq_true rfl) rfl (M2 := Mc_140) rfl p_X9_18 rfl (by simp) rfl d_X9_init_25 ?_
  refine r_aload_n 0 d_X9_init_28 rfl rfl ?_
  refine r_bipush (8 : Int32) d_X9_init_29 rfl ?_
  refine rc_newa (t := 0) (ty := .int) zc_M140 zc_M144 (i := 67) (Nat.le_of_ble_eq_true rfl) rfl (M2 := Mc_141) rfl rfl (by decide) ac_int (by decide) rfl (Nat.le_of_ble_eq_true rfl) d_X9_init_31 ?_
  refine rc_putF (ci := 9) zc_M141 (Nat.le_of_ble_eq_true rfl) rfl (M2 := Mc_142) rfl p_X9_21 rfl (by simp) rfl d_X9_init_33 ?_
  refine r_aload_n 0 d_X9_init_36 rfl rfl ?_
  refine r_bipush (8 : Int32) d_X9_init_37 rfl ?_
  refine rc_newa (t := 0) (ty := .int) zc_M142 zc_M144 (i := 68) (Nat.le_of_ble_eq_true rfl) rfl (M2 := Mc_143) rfl rfl (by decide) ac_int (by decide) rfl (Nat.le_of_ble_eq_true rfl) d_X9_init_39 ?_
  refine rc_putF (ci := 9) zc_M143 (Nat.le_of_ble_eq_true rfl) rfl (M2 := Mc_144) rfl p_X9_24 rfl (by simp) rfl d_X9_init_41 ?_
  exact r_vret rfl d_X9_init_44
def Mc_145 : zM := sR Mc_144 0 7 63
theorem zc_M145 : zC0 Mc_145 69 := zc_M144.wR
def Mc_146 : zM := zAl Mc_145 (16, 8)
theorem zc_M146 : zC0 Mc_146 70 := zc_M145.al rfl
def Mc_147 : zM := zAl Mc_146 (0, 6)
theorem zc_M147 : zC0 Mc_147 71 := zc_M146.al rfl
def Mc_148 : zM := sR Mc_147 69 3 70
theorem zc_M148 : zC0 Mc_148 71 := zc_M147.wR
def Mc_149 : zM := zAl Mc_148 (0, 6)
theorem zc_M149 : zC0 Mc_149 72 := zc_M148.al rfl
def Mc_150 : zM := sR Mc_149 69 4 71
theorem zc_M150 : zC0 Mc_150 72 := zc_M149.wR
def Mc_151 : zM := zAl Mc_150 (0, 8)
theorem zc_M151 : zC0 Mc_151 73 := zc_M150.al rfl
def Mc_152 : zM := sR Mc_151 69 5 72
theorem zc_M152 : zC0 Mc_152 73 := zc_M151.wR
def Mc_153 : zM := zAl Mc_152 (0, 8)
theorem zc_M153 : zC0 Mc_153 74 := zc_M152.al rfl
def Mc_154 : zM := sR Mc_153 69 6 73
theorem zc_M154 : zC0 Mc_154 74 := zc_M153.wR
def Mc_155 : zM := zAl Mc_154 (0, 8)
theorem zc_M155 : zC0 Mc_155 75 := zc_M154.al rfl
def Mc_156 : zM := sR Mc_155 69 7 74
theorem zc_M156 : zC0 Mc_156 75 := zc_M155.wR
theorem ct_25 {X : zX} {d : Nat} (hst : (zl X).stackTraces = false) (hd : 2 ≤ d) : Sd X m_X9_init d [.ref 69] Mc_146 (some (.inl none, Mc_156)) := by
  obtain ⟨d, rfl⟩ : ∃ e, d = e + 1 := ⟨d - 1, by omega⟩
  refine z_body ck_X9_init rfl (Nat.le_of_ble_eq_true rfl) rfl hst ?_
  show Rn X m_X9_init (d + 1) 0 [(0, .ref 69)] [] Mc_146 _
  refine r_aload_n 0 d_X9_init_0 rfl rfl ?_
  refine r_objInit ml_X9_3 oi_i oi_c (by omega) (Nat.le_of_ble_eq_true rfl) d_X9_init_1 ?_
  refine r_aload_n 0 d_X9_init_4 rfl rfl ?_
  refine r_bipush (6 : Int32) d_X9_init_5 rfl ?_
  refine rc_newa (t := 0) (ty := .int) zc_M146 zc_M156 (i := 70) (Nat.le_of_ble_eq_true rfl) rfl (M2 := Mc_147) rfl rfl (by decide) ac_int (by decide) rfl (Nat.le_of_ble_eq_true rfl) d_X9_init_7 ?_
  refine rc_putF (ci := 9) zc_M147 (Nat.le_of_ble_eq_true rfl) rfl (M2 := Mc_148) rfl p_X9_9 rfl (by simp) rfl d_X9_init_9 ?_
  refine r_aload_n 0 d_X9_init_12 rfl rfl ?_
  refine r_bipush (6 : Int32) d_X9_init_13 rfl ?_
  refine rc_newa (t := 0) (ty := .int) zc_M148 zc_M156 (i := 71) (Nat.le_of_ble_eq_true rfl) rfl (M2 := Mc_149) rfl rfl (by decide) ac_int (by decide) rfl (Nat.le_of_ble_eq_true rfl) d_X9_init_15 ?_
  refine rc_putF (ci := 9) zc_M149 (Nat.le_of_ble_eq_true rfl) rfl (M2 := Mc_150) rfl p_X9_15 rfl (by simp) rfl d_X9_init_17 ?_
  refine r_aload_n 0 d_X9_init_20 rfl rfl ?_
  refine r_bipush (8 : Int32) d_X9_init_21 rfl ?_
  refine rc_newa (t := 0) (ty := .int) zc_M150 zc_M156 (i := 72) (Nat.le_of_ble_eq_true rfl) rfl (M2 := Mc_151) rfl rfl (by decide) ac_int (by decide) rfl (Nat.le_of_ble_eq_true rfl) d_X9_init_23 ?_
  refine rc_putF (ci := 9) zc_M151 (Nat.le_of_ble_eq_true rfl) rfl (M2 := Mc_152) rfl p_X9_18 rfl (by simp) rfl d_X9_init_25 ?_
  refine r_aload_n 0 d_X9_init_28 rfl rfl ?_
  refine r_bipush (8 : Int32) d_X9_init_29 rfl ?_
  refine rc_newa (t := 0) (ty := .int) zc_M152 zc_M156 (i := 73) (Nat.le_of_ble_eq_true rfl) rfl (M2 := Mc_153) rfl rfl (by decide) ac_int (by decide) rfl (Nat.le_of_ble_eq_true rfl) d_X9_init_31 ?_
  refine rc_putF (ci := 9) zc_M153 (Nat.le_of_ble_eq_true rfl) rfl (M2 := Mc_154) rfl p_X9_21 rfl (by simp) rfl d_X9_init_33 ?_
  refine r_aload_n 0 d_X9_init_36 rfl rfl ?_
  refine r_bipush (8 : Int32) d_X9_init_37 rfl ?_
  refine rc_newa (t := 0) (ty := .int) zc_M154 zc_M156 (i := 74) (Nat.le_of_ble_eq_true rfl) rfl (M2 := Mc_155) rfl rfl (by decide) ac_int (by decide) rfl (Nat.le_of_ble_eq_true rfl) d_X9_init_39 ?_
  refine rc_putF (ci := 9) zc_M155 (Nat.le_of_ble_eq_true rfl) rfl (M2 := Mc_156) rfl p_X9_24 rfl (by simp) rfl d_X9_init_41 ?_
  exact r_vret rfl d_X9_init_44
def Mc_157 : zM := sR Mc_156 0 8 69
theorem zc_M157 : zC0 Mc_157 75 := zc_M156.wR
def Mc_158 : zM := zAl Mc_157 (16, 8)
theorem zc_M158 : zC0 Mc_158 76 := zc_M157.al rfl
def Mc_159 : zM := zAl Mc_158 (0, 6)
theorem zc_M159 : zC0 Mc_159 77 := zc_M158.al rfl
def Mc_160 : zM := sR Mc_159 75 3 76
theorem zc_M160 : zC0 Mc_160 77 := zc_M159.wR
def Mc_161 : zM := zAl Mc_160 (0, 6)
theorem zc_M161 : zC0 Mc_161 78 := zc_M160.al rfl
def Mc_162 : zM := sR Mc_161 75 4 77
theorem zc_M162 : zC0 Mc_162 78 := zc_M161.wR
def Mc_163 : zM := zAl Mc_162 (0, 8)
theorem zc_M163 : zC0 Mc_163 79 := zc_M162.al rfl
def Mc_164 : zM := sR Mc_163 75 5 78
theorem zc_M164 : zC0 Mc_164 79 := zc_M163.wR
def Mc_165 : zM := zAl Mc_164 (0, 8)
theorem zc_M165 : zC0 Mc_165 80 := zc_M164.al rfl
def Mc_166 : zM := sR Mc_165 75 6 79
theorem zc_M166 : zC0 Mc_166 80 := zc_M165.wR
def Mc_167 : zM := zAl Mc_166 (0, 8)
theorem zc_M167 : zC0 Mc_167 81 := zc_M166.al rfl
def Mc_168 : zM := sR Mc_167 75 7 80
theorem zc_M168 : zC0 Mc_168 81 := zc_M167.wR
theorem ct_26 {X : zX} {d : Nat} (hst : (zl X).stackTraces = false) (hd : 2 ≤ d) : Sd X m_X9_init d [.ref 75] Mc_158 (some (.inl none, Mc_168)) := by
  obtain ⟨d, rfl⟩ : ∃ e, d = e + 1 := ⟨d - 1, by omega⟩
  refine z_body ck_X9_init rfl (Nat.le_of_ble_eq_true rfl) rfl hst ?_
  show Rn X m_X9_init (d + 1) 0 [(0, .ref 75)] [] Mc_158 _
  refine r_aload_n 0 d_X9_init_0 rfl rfl ?_
  refine r_objInit ml_X9_3 oi_i oi_c (by omega) (Nat.le_of_ble_eq_true rfl) d_X9_init_1 ?_
  refine r_aload_n 0 d_X9_init_4 rfl rfl ?_
  refine r_bipush (6 : Int32) d_X9_init_5 rfl ?_
  refine rc_newa (t := 0) (ty := .int) zc_M158 zc_M168 (i := 76) (Nat.le_of_ble_eq_true rfl) rfl (M2 := Mc_159) rfl rfl (by decide) ac_int (by decide) rfl (Nat.le_of_ble_eq_true rfl) d_X9_init_7 ?_
  refine rc_putF (ci := 9) zc_M159 (Nat.le_of_ble_eq_true rfl) rfl (M2 := Mc_160) rfl p_X9_9 rfl (by simp) rfl d_X9_init_9 ?_
  refine r_aload_n 0 d_X9_init_12 rfl rfl ?_
  refine r_bipush (6 : Int32) d_X9_init_13 rfl ?_
  refine rc_newa (t := 0) (ty := .int) zc_M160 zc_M168 (i := 77) (Nat.le_of_ble_eq_true rfl) rfl (M2 := Mc_161) rfl rfl (by decide) ac_int (by decide) rfl (Nat.le_of_ble_eq_true rfl) d_X9_init_15 ?_
  refine rc_putF (ci := 9) zc_M161 (Nat.le_of_ble_eq_true rfl) rfl (M2 := Mc_162) rfl p_X9_15 rfl (by simp) rfl d_X9_init_17 ?_
  refine r_aload_n 0 d_X9_init_20 rfl rfl ?_
  refine r_bipush (8 : Int32) d_X9_init_21 rfl ?_
  refine rc_newa (t := 0) (ty := .int) zc_M162 zc_M168 (i := 78) (Nat.le_of_ble_eq_true rfl) rfl (M2 := Mc_163) rfl rfl (by decide) ac_int (by decide) rfl (Nat.le_of_ble_eq_true rfl) d_X9_init_23 ?_
  refine rc_putF (ci := 9) zc_M163 (Nat.le_of_ble_eq_true rfl) rfl (M2 := Mc_164) rfl p_X9_18 rfl (by simp) rfl d_X9_init_25 ?_
  refine r_aload_n 0 d_X9_init_28 rfl rfl ?_
  refine r_bipush (8 : Int32) d_X9_init_29 rfl ?_
  refine rc_newa (t := 0) (ty := .int) zc_M164 zc_M168 (i := 79) (Nat.le_of_ble_eq_true rfl) rfl (M2 := Mc_165) rfl rfl (by decide) ac_int (by decide) rfl (Nat.le_of_ble_eq_true rfl) d_X9_init_31 ?_
  refine rc_putF (ci := 9) zc_M165 (Nat.le_of_ble_eq_true rfl) rfl (M2 := Mc_166) rfl p_X9_21 rfl (by simp) rfl d_X9_init_33 ?_
  refine r_aload_n 0 d_X9_init_36 rfl rfl ?_
  refine r_bipush (8 : Int32) d_X9_init_37 rfl ?_
  refine rc_newa (t := 0) (ty := .int) zc_M166 zc_M168 (i := 80) (Nat.le_of_ble_eq_true rfl) rfl (M2 := Mc_167) rfl rfl (by decide) ac_int (by decide) rfl (Nat.le_of_ble_eq_true rfl) d_X9_init_39 ?_
  refine rc_putF (ci := 9) zc_M167 (Nat.le_of_ble_eq_true rfl) rfl (M2 := Mc_168) rfl p_X9_24 rfl (by simp) rfl d_X9_init_41 ?_
  exact r_vret rfl d_X9_init_44
def Mc_169 : zM := sR Mc_168 0 9 75
theorem zc_M169 : zC0 Mc_169 81 := zc_M168.wR
def Mc_170 : zM := zAl Mc_169 (17, 8)
theorem zc_M170 : zC0 Mc_170 82 := zc_M169.al rfl
def Mc_171 : zM := zAl Mc_170 (0, 12)
theorem zc_M171 : zC0 Mc_171 83 := zc_M170.al rfl
def Mc_172 : zM := sR Mc_171 81 1 82
theorem zc_M172 : zC0 Mc_172 83 := zc_M171.wR
def Mc_173 : zM := zAl Mc_172 (0, 12)
theorem zc_M173 : zC0 Mc_173 84 := zc_M172.al rfl
def Mc_174 : zM := sR Mc_173 81 2 83
theorem zc_M174 : zC0 Mc_174 84 := zc_M173.wR
def Mc_175 : zM := zAl Mc_174 (0, 144)
theorem zc_M175 : zC0 Mc_175 85 := zc_M174.al rfl
def Mc_176 : zM := sR Mc_175 81 3 84
theorem zc_M176 : zC0 Mc_176 85 := zc_M175.wR
def Mc_177 : zM := sR Mc_176 81 0 20
theorem zc_M177 : zC0 Mc_177 85 := zc_M176.wR
theorem ct_27 {X : zX} {d : Nat} (hst : (zl X).stackTraces = false) (hd : 2 ≤ d) : Sd X m_X10_init d [.ref 81, .ref 20] Mc_170 (some (.inl none, Mc_177)) := by
  obtain ⟨d, rfl⟩ : ∃ e, d = e + 1 := ⟨d - 1, by omega⟩
  refine z_body ck_X10_init rfl (Nat.le_of_ble_eq_true rfl) rfl hst ?_
  show Rn X m_X10_init (d + 1) 0 [(0, .ref 81), (1, .ref 20)] [] Mc_170 _
  refine r_aload_n 0 d_X10_init_0 rfl rfl ?_
  refine r_objInit ml_X10_3 oi_i oi_c (by omega) (Nat.le_of_ble_eq_true rfl) d_X10_init_1 ?_
  refine r_aload_n 0 d_X10_init_4 rfl rfl ?_
  refine r_bipush (12 : Int32) d_X10_init_5 rfl ?_
  refine rc_newa (t := 0) (ty := .int) zc_M170 zc_M177 (i := 82) (Nat.le_of_ble_eq_true rfl) rfl (M2 := Mc_171) rfl rfl (by decide) ac_int (by decide) rfl (Nat.le_of_ble_eq_true rfl) d_X10_init_7 ?_
  refine rc_putF (ci := 10) zc_M171 (Nat.le_of_ble_eq_true rfl) rfl (M2 := Mc_172) rfl p_X10_9 rfl (by simp) rfl d_X10_init_9 ?_
  refine r_aload_n 0 d_X10_init_12 rfl rfl ?_
  refine r_bipush (12 : Int32) d_X10_init_13 rfl ?_
  refine rc_newa (t := 0) (ty := .int) zc_M172 zc_M177 (i := 83) (Nat.le_of_ble_eq_true rfl) rfl (M2 := Mc_173) rfl rfl (by decide) ac_int (by decide) rfl (Nat.le_of_ble_eq_true rfl) d_X10_init_15 ?_
  refine rc_putF (ci := 10) zc_M173 (Nat.le_of_ble_eq_true rfl) rfl (M2 := Mc_174) rfl p_X10_15 rfl (by simp) rfl d_X10_init_17 ?_
  refine r_aload_n 0 d_X10_init_20 rfl rfl ?_
  refine r_sipush (144 : Int32) d_X10_init_21 rfl ?_
  refine rc_newa (t := 0) (ty := .int) zc_M174 zc_M177 (i := 84) (Nat.le_of_ble_eq_true rfl) rfl (M2 := Mc_175) rfl rfl (by decide) ac_int (by decide) rfl (Nat.le_of_ble_eq_true rfl) d_X10_init_24 ?_
  refine rc_putF (ci := 10) zc_M175 (Nat.le_of_ble_eq_true rfl) rfl (M2 := Mc_176) rfl p_X10_18 rfl (by simp) rfl d_X10_init_26 ?_
  refine r_aload_n 0 d_X10_init_29 rfl rfl ?_
  refine r_aload_n 1 d_X10_init_30 rfl rfl ?_
  refine rc_putF (ci := 10) zc_M176 (Nat.le_of_ble_eq_true rfl) rfl (M2 := Mc_177) rfl p_X10_21 rfl (by simp) rfl d_X10_init_31 ?_
  exact r_vret rfl d_X10_init_34
def Mc_178 : zM := sR Mc_177 0 10 81
theorem zc_M178 : zC0 Mc_178 85 := zc_M177.wR
def Mc_179 : zM := zAl Mc_178 (13, 4)
theorem zc_M179 : zC0 Mc_179 86 := zc_M178.al rfl
def Mc_180 : zM := zAl Mc_179 (17, 8)
theorem zc_M180 : zC0 Mc_180 87 := zc_M179.al rfl
def Mc_181 : zM := zAl Mc_180 (0, 12)
theorem zc_M181 : zC0 Mc_181 88 := zc_M180.al rfl
def Mc_182 : zM := sR Mc_181 86 1 87
theorem zc_M182 : zC0 Mc_182 88 := zc_M181.wR
def Mc_183 : zM := zAl Mc_182 (0, 12)
theorem zc_M183 : zC0 Mc_183 89 := zc_M182.al rfl
def Mc_184 : zM := sR Mc_183 86 2 88
theorem zc_M184 : zC0 Mc_184 89 := zc_M183.wR
def Mc_185 : zM := zAl Mc_184 (0, 144)
theorem zc_M185 : zC0 Mc_185 90 := zc_M184.al rfl
def Mc_186 : zM := sR Mc_185 86 3 89
theorem zc_M186 : zC0 Mc_186 90 := zc_M185.wR
def Mc_187 : zM := sR Mc_186 86 0 20
theorem zc_M187 : zC0 Mc_187 90 := zc_M186.wR
theorem ct_28 {X : zX} {d : Nat} (hst : (zl X).stackTraces = false) (hd : 2 ≤ d) : Sd X m_X10_init d [.ref 86, .ref 20] Mc_180 (some (.inl none, Mc_187)) := by
  obtain ⟨d, rfl⟩ : ∃ e, d = e + 1 := ⟨d - 1, by omega⟩
  refine z_body ck_X10_init rfl (Nat.le_of_ble_eq_true rfl) rfl hst ?_
  show Rn X m_X10_init (d + 1) 0 [(0, .ref 86), (1, .ref 20)] [] Mc_180 _
  refine r_aload_n 0 d_X10_init_0 rfl rfl ?_
  refine r_objInit ml_X10_3 oi_i oi_c (by omega) (Nat.le_of_ble_eq_true rfl) d_X10_init_1 ?_
  refine r_aload_n 0 d_X10_init_4 rfl rfl ?_
  refine r_bipush (12 : Int32) d_X10_init_5 rfl ?_
  refine rc_newa (t := 0) (ty := .int) zc_M180 zc_M187 (i := 87) (Nat.le_of_ble_eq_true rfl) rfl (M2 := Mc_181) rfl rfl (by decide) ac_int (by decide) rfl (Nat.le_of_ble_eq_true rfl) d_X10_init_7 ?_
  refine rc_putF (ci := 10) zc_M181 (Nat.le_of_ble_eq_true rfl) rfl (M2 := Mc_182) rfl p_X10_9 rfl (by simp) rfl d_X10_init_9 ?_
  refine r_aload_n 0 d_X10_init_12 rfl rfl ?_
  refine r_bipush (12 : Int32) d_X10_init_13 rfl ?_
  refine rc_newa (t := 0) (ty := .int) zc_M182 zc_M187 (i := 88) (Nat.le_of_ble_eq_true rfl) rfl (M2 := Mc_183) rfl rfl (by decide) ac_int (by decide) rfl (Nat.le_of_ble_eq_true rfl) d_X10_init_15 ?_
  refine rc_putF (ci := 10) zc_M183 (Nat.le_of_ble_eq_true rfl) rfl (M2 := Mc_184) rfl p_X10_15 rfl (by simp) rfl d_X10_init_17 ?_
  refine r_aload_n 0 d_X10_init_20 rfl rfl ?_
  refine r_sipush (144 : Int32) d_X10_init_21 rfl ?_
  refine rc_newa (t := 0) (ty := .int) zc_M184 zc_M187 (i := 89) (Nat.le_of_ble_eq_true rfl) rfl (M2 := Mc_185) rfl rfl (by decide) ac_int (by decide) rfl (Nat.le_of_ble_eq_true rfl) d_X10_init_24 ?_
  refine rc_putF (ci := 10) zc_M185 (Nat.le_of_ble_eq_true rfl) rfl (M2 := Mc_186) rfl p_X10_18 rfl (by simp) rfl d_X10_init_26 ?_
  refine r_aload_n 0 d_X10_init_29 rfl rfl ?_
  refine r_aload_n 1 d_X10_init_30 rfl rfl ?_
  refine rc_putF (ci := 10) zc_M186 (Nat.le_of_ble_eq_true rfl) rfl (M2 := Mc_187) rfl p_X10_21 rfl (by simp) rfl d_X10_init_31 ?_
  exact r_vret rfl d_X10_init_34
def Mc_188 : zM := sR Mc_187 85 0 86
theorem zc_M188 : zC0 Mc_188 90 := zc_M187.wR
theorem ct_29 {X : zX} {d : Nat} (hst : (zl X).stackTraces = false) (hd : 2 ≤ d) : Sd X m_X6_init d [.ref 85, .ref 86] Mc_187 (some (.inl none, Mc_188)) := by
  obtain ⟨d, rfl⟩ : ∃ e, d = e + 1 := ⟨d - 1, by omega⟩
  refine z_body ck_X6_init rfl (Nat.le_of_ble_eq_true rfl) rfl hst ?_
  show Rn X m_X6_init (d + 1) 0 [(0, .ref 85), (1, .ref 86)] [] Mc_187 _
  refine r_aload_n 0 d_X6_init_0 rfl rfl ?_
  refine r_objInit ml_X6_3 oi_i oi_c (by omega) (Nat.le_of_ble_eq_true rfl) d_X6_init_1 ?_
  refine r_aload_n 0 d_X6_init_4 rfl rfl ?_
  refine r_aload_n 1 d_X6_init_5 rfl rfl ?_
  refine rc_putF (ci := 6) zc_M187 (Nat.le_of_ble_eq_true rfl) rfl (M2 := Mc_188) rfl p_X6_9 rfl (by simp) rfl d_X6_init_6 ?_
  exact r_vret rfl d_X6_init_9
def Mc_189 : zM := sR Mc_188 0 11 85
theorem zc_M189 : zC0 Mc_189 90 := zc_M188.wR
def Mc_190 : zM := zAl Mc_189 (11, 4)
theorem zc_M190 : zC0 Mc_190 91 := zc_M189.al rfl
def Mc_191 : zM := zAl Mc_190 (0, 12)
theorem zc_M191 : zC0 Mc_191 92 := zc_M190.al rfl
def Mc_192 : zM := sR Mc_191 90 0 91
theorem zc_M192 : zC0 Mc_192 92 := zc_M191.wR
theorem ct_30 {X : zX} {d : Nat} (hst : (zl X).stackTraces = false) (hd : 2 ≤ d) : Sd X m_X4_init d [.ref 90] Mc_190 (some (.inl none, Mc_192)) := by
  obtain ⟨d, rfl⟩ : ∃ e, d = e + 1 := ⟨d - 1, by omega⟩
  refine z_body ck_X4_init rfl (Nat.le_of_ble_eq_true rfl) rfl hst ?_
  show Rn X m_X4_init (d + 1) 0 [(0, .ref 90)] [] Mc_190 _
  refine r_aload_n 0 d_X4_init_0 rfl rfl ?_
  refine r_objInit ml_X4_3 oi_i oi_c (by omega) (Nat.le_of_ble_eq_true rfl) d_X4_init_1 ?_
  refine r_aload_n 0 d_X4_init_4 rfl rfl ?_
  refine r_bipush (12 : Int32) d_X4_init_5 rfl ?_
  refine rc_newa (t := 0) (ty := .int) zc_M190 zc_M192 (i := 91) (Nat.le_of_ble_eq_true rfl) rfl (M2 := Mc_191) rfl rfl (by decide) ac_int (by decide) rfl (Nat.le_of_ble_eq_true rfl) d_X4_init_7 ?_
  refine rc_putF (ci := 4) zc_M191 (Nat.le_of_ble_eq_true rfl) rfl (M2 := Mc_192) rfl p_X4_9 rfl (by simp) rfl d_X4_init_9 ?_
  exact r_vret rfl d_X4_init_12
def Mc_193 : zM := sR Mc_192 0 12 90
theorem zc_M193 : zC0 Mc_193 92 := zc_M192.wR
def Mc_194 : zM := zAl Mc_193 (9, 6)
theorem zc_M194 : zC0 Mc_194 93 := zc_M193.al rfl
def Mc_195 : zM := zAl Mc_194 (1, 64)
theorem zc_M195 : zC0 Mc_195 94 := zc_M194.al rfl
def Mc_196 : zM := sR Mc_195 92 0 93
theorem zc_M196 : zC0 Mc_196 94 := zc_M195.wR
def Mc_197 : zM := zAl Mc_196 (1, 64)
theorem zc_M197 : zC0 Mc_197 95 := zc_M196.al rfl
def Mc_198 : zM := sR Mc_197 92 1 94
theorem zc_M198 : zC0 Mc_198 95 := zc_M197.wR
def Mc_199 : zM := zAl Mc_198 (1, 64)
theorem zc_M199 : zC0 Mc_199 96 := zc_M198.al rfl
def Mc_200 : zM := sR Mc_199 92 2 95
theorem zc_M200 : zC0 Mc_200 96 := zc_M199.wR
def Mc_201 : zM := zAl Mc_200 (0, 2176)
theorem zc_M201 : zC0 Mc_201 97 := zc_M200.al rfl
def Mc_202 : zM := sR Mc_201 92 3 96
theorem zc_M202 : zC0 Mc_202 97 := zc_M201.wR
theorem ct_31 {X : zX} {d : Nat} (hst : (zl X).stackTraces = false) (hd : 2 ≤ d) : Sd X m_X2_init d [.ref 92] Mc_194 (some (.inl none, Mc_202)) := by
  obtain ⟨d, rfl⟩ : ∃ e, d = e + 1 := ⟨d - 1, by omega⟩
  refine z_body ck_X2_init rfl (Nat.le_of_ble_eq_true rfl) rfl hst ?_
  show Rn X m_X2_init (d + 1) 0 [(0, .ref 92)] [] Mc_194 _
  refine r_aload_n 0 d_X2_init_0 rfl rfl ?_
  refine r_objInit ml_X2_3 oi_i oi_c (by omega) (Nat.le_of_ble_eq_true rfl) d_X2_init_1 ?_
  refine r_aload_n 0 d_X2_init_4 rfl rfl ?_
  refine r_bipush (64 : Int32) d_X2_init_5 rfl ?_
  refine rc_newa (t := 1) (ty := .long) zc_M194 zc_M202 (i := 93) (Nat.le_of_ble_eq_true rfl) rfl (M2 := Mc_195) rfl rfl (by decide) ac_long (by decide) rfl (Nat.le_of_ble_eq_true rfl) d_X2_init_7 ?_
  refine rc_putF (ci := 2) zc_M195 (Nat.le_of_ble_eq_true rfl) rfl (M2 := Mc_196) rfl p_X2_11 rfl (by simp) rfl d_X2_init_9 ?_
  refine r_aload_n 0 d_X2_init_12 rfl rfl ?_
  refine r_bipush (64 : Int32) d_X2_init_13 rfl ?_
  refine rc_newa (t := 1) (ty := .long) zc_M196 zc_M202 (i := 94) (Nat.le_of_ble_eq_true rfl) rfl (M2 := Mc_197) rfl rfl (by decide) ac_long (by decide) rfl (Nat.le_of_ble_eq_true rfl) d_X2_init_15 ?_
  refine rc_putF (ci := 2) zc_M197 (Nat.le_of_ble_eq_true rfl) rfl (M2 := Mc_198) rfl p_X2_15 rfl (by simp) rfl d_X2_init_17 ?_
  refine r_aload_n 0 d_X2_init_20 rfl rfl ?_
  refine r_bipush (64 : Int32) d_X2_init_21 rfl ?_
  refine rc_newa (t := 1) (ty := .long) zc_M198 zc_M202 (i := 95) (Nat.le_of_ble_eq_true rfl) rfl (M2 := Mc_199) rfl rfl (by decide) ac_long (by decide) rfl (Nat.le_of_ble_eq_true rfl) d_X2_init_23 ?_
  refine rc_putF (ci := 2) zc_M199 (Nat.le_of_ble_eq_true rfl) rfl (M2 := Mc_200) rfl p_X2_18 rfl (by simp) rfl d_X2_init_25 ?_
  refine r_aload_n 0 d_X2_init_28 rfl rfl ?_
  refine r_sipush (2176 : Int32) d_X2_init_29 rfl ?_
  refine rc_newa (t := 0) (ty := .int) zc_M200 zc_M202 (i := 96) (Nat.le_of_ble_eq_true rfl) rfl (M2 := Mc_201) rfl rfl (by decide) ac_int (by decide) rfl (Nat.le_of_ble_eq_true rfl) d_X2_init_32 ?_
  refine rc_putF (ci := 2) zc_M201 (Nat.le_of_ble_eq_true rfl) rfl (M2 := Mc_202) rfl p_X2_21 rfl (by simp) rfl d_X2_init_34 ?_
  exact r_vret rfl d_X2_init_37
def Mc_203 : zM := sR Mc_202 0 13 92
theorem zc_M203 : zC0 Mc_203 97 := zc_M202.wR
def Mc_204 : zM := zAl Mc_203 (12, 3)
theorem zc_M204 : zC0 Mc_204 98 := zc_M203.al rfl
def Mc_205 : zM := zAl Mc_204 (0, 800)
theorem zc_M205 : zC0 Mc_205 99 := zc_M204.al rfl
def Mc_206 : zM := sR Mc_205 97 0 98
theorem zc_M206 : zC0 Mc_206 99 := zc_M205.wR
def Mc_207 : zM := zAl Mc_206 (0, 800)
theorem zc_M207 : zC0 Mc_207 100 := zc_M206.al rfl
def Mc_208 : zM := sR Mc_207 97 1 99
theorem zc_M208 : zC0 Mc_208 100 := zc_M207.wR
def Mc_209 : zM := zAl Mc_208 (0, 8)
theorem zc_M209 : zC0 Mc_209 101 := zc_M208.al rfl
def Mc_210 : zM := sR Mc_209 97 2 100
theorem zc_M210 : zC0 Mc_210 101 := zc_M209.wR
theorem ct_32 {X : zX} {d : Nat} (hst : (zl X).stackTraces = false) (hd : 2 ≤ d) : Sd X m_X5_init d [.ref 97] Mc_204 (some (.inl none, Mc_210)) := by
  obtain ⟨d, rfl⟩ : ∃ e, d = e + 1 := ⟨d - 1, by omega⟩
  refine z_body ck_X5_init rfl (Nat.le_of_ble_eq_true rfl) rfl hst ?_
  show Rn X m_X5_init (d + 1) 0 [(0, .ref 97)] [] Mc_204 _
  refine r_aload_n 0 d_X5_init_0 rfl rfl ?_
  refine r_objInit ml_X5_3 oi_i oi_c (by omega) (Nat.le_of_ble_eq_true rfl) d_X5_init_1 ?_
  refine r_aload_n 0 d_X5_init_4 rfl rfl ?_
  refine r_sipush (800 : Int32) d_X5_init_5 rfl ?_
  refine rc_newa (t := 0) (ty := .int) zc_M204 zc_M210 (i := 98) (Nat.le_of_ble_eq_true rfl) rfl (M2 := Mc_205) rfl rfl (by decide) ac_int (by decide) rfl (Nat.le_of_ble_eq_true rfl) d_X5_init_8 ?_
  refine rc_putF (ci := 5) zc_M205 (Nat.le_of_ble_eq_true rfl) rfl (M2 := Mc_206) rfl p_X5_9 rfl (by simp) rfl d_X5_init_10 ?_
  refine r_aload_n 0 d_X5_init_13 rfl rfl ?_
  refine r_sipush (800 : Int32) d_X5_init_14 rfl ?_
  refine rc_newa (t := 0) (ty := .int) zc_M206 zc_M210 (i := 99) (Nat.le_of_ble_eq_true rfl) rfl (M2 := Mc_207) rfl rfl (by decide) ac_int (by decide) rfl (Nat.le_of_ble_eq_true rfl) d_X5_init_17 ?_
  refine rc_putF (ci := 5) zc_M207 (Nat.le_of_ble_eq_true rfl) rfl (M2 := Mc_208) rfl p_X5_15 rfl (by simp) rfl d_X5_init_19 ?_
  refine r_aload_n 0 d_X5_init_22 rfl rfl ?_
  refine r_bipush (8 : Int32) d_X5_init_23 rfl ?_
  refine rc_newa (t := 0) (ty := .int) zc_M208 zc_M210 (i := 100) (Nat.le_of_ble_eq_true rfl) rfl (M2 := Mc_209) rfl rfl (by decide) ac_int (by decide) rfl (Nat.le_of_ble_eq_true rfl) d_X5_init_25 ?_
  refine rc_putF (ci := 5) zc_M209 (Nat.le_of_ble_eq_true rfl) rfl (M2 := Mc_210) rfl p_X5_18 rfl (by simp) rfl d_X5_init_27 ?_
  exact r_vret rfl d_X5_init_30
def Mc_211 : zM := sR Mc_210 0 14 97
theorem zc_M211 : zC0 Mc_211 101 := zc_M210.wR
def Mc_212 : zM := zAl Mc_211 (0, 34)
theorem zc_M212 : zC0 Mc_212 102 := zc_M211.al rfl
def Mc_213 : zM := sR Mc_212 0 15 101
theorem zc_M213 : zC0 Mc_213 102 := zc_M212.wR
def Mc_214 : zM := (Mc_213.1, sI Mc_213.2 21 0 (0 : Int32))
theorem zc_M214 : zC0 Mc_214 102 := zc_M213.wD
def Mc_215 : zM := (Mc_214.1, sI Mc_214.2 20 1 (1 : Int32))
theorem zc_M215 : zC0 Mc_215 102 := zc_M214.wD
theorem ct_33 {X : zX} {d : Nat} (hst : (zl X).stackTraces = false) (hd : 1 ≤ d) : Sd X m_X3_beOne d [.ref 20, .int (0)] Mc_213 (some (.inl none, Mc_215)) := by
  obtain ⟨d, rfl⟩ : ∃ e, d = e + 1 := ⟨d - 1, by omega⟩
  refine z_body ck_X3_beOne rfl (Nat.le_of_ble_eq_true rfl) rfl hst ?_
  show Rn X m_X3_beOne (d + 1) 0 [(0, .ref 20), (1, .int (0))] [] Mc_213 _
  refine r_aload_n 0 d_X3_beOne_0 rfl rfl ?_
  refine rc_getR (ci := 3) (q := 21) zc_M213 (Nat.le_of_ble_eq_true rfl) rfl (by decide +kernel) g_X3_9 rfl d_X3_beOne_1 ?_
  refine r_iconst (0 : Int32) d_X3_beOne_4 rfl ?_
  refine r_iload_n 1 d_X3_beOne_5 rfl rfl ?_
  refine rc_iast zc_M213 (Nat.le_of_ble_eq_true rfl) rfl (M2 := Mc_214) rfl (by unfold vp_in; decide) d_X3_beOne_6 ?_
  refine r_aload_n 0 d_X3_beOne_7 rfl rfl ?_
  refine r_iconst (1 : Int32) d_X3_beOne_8 rfl ?_
  refine rc_putI (ci := 3) zc_M214 (Nat.le_of_ble_eq_true rfl) rfl (M2 := Mc_215) rfl p_X3_15 rfl (by decide) d_X3_beOne_9 ?_
  exact r_vret rfl d_X3_beOne_12
def Mc_216 : zM := (Mc_215.1, zfill Mc_215.2 101 34 (-1000000 : Int32))
theorem zc_M216 : zC0 Mc_216 102 := zc_M215.wD
theorem ct_34 {X : zX} {d : Nat} (hst : (zl X).stackTraces = false) (hd : 4 ≤ d) : Sd X m_X11_init d [.ref 0] Mc_1 (some (.inl none, Mc_216)) := by
  obtain ⟨d, rfl⟩ : ∃ e, d = e + 1 := ⟨d - 1, by omega⟩
  refine z_body ck_X11_init rfl (Nat.le_of_ble_eq_true rfl) rfl hst ?_
  show Rn X m_X11_init (d + 1) 0 [(0, .ref 0)] [] Mc_1 _
  refine r_aload_n 0 d_X11_init_0 rfl rfl ?_
  refine r_objInit ml_X11_3 oi_i oi_c (by omega) (Nat.le_of_ble_eq_true rfl) d_X11_init_1 ?_
  refine r_aload_n 0 d_X11_init_4 rfl rfl ?_
  refine r_sipush (500 : Int32) d_X11_init_5 rfl ?_
  refine rc_newa (t := 2) (ty := .byte) zc_M1 zc_M216 (i := 1) (Nat.le_of_ble_eq_true rfl) rfl (M2 := Mc_2) rfl rfl (by decide) ac_byte (by decide) rfl (Nat.le_of_ble_eq_true rfl) d_X11_init_8 ?_
  refine rc_putF (ci := 11) zc_M2 (Nat.le_of_ble_eq_true rfl) rfl (M2 := Mc_3) rfl p_X11_9 rfl (by simp) rfl d_X11_init_10 ?_
  refine r_aload_n 0 d_X11_init_13 rfl rfl ?_
  refine rc_new (ci := 8) zc_M3 zc_M216 (i := 2) (Nat.le_of_ble_eq_true rfl) rfl (M2 := Mc_4) rfl zcf_8 zdv_8 cl_X11_13 it_X8 iz_X8 d_X11_init_14 ?_
  refine r_dup d_X11_init_17 rfl ?_
  refine r_aload_n 0 d_X11_init_18 rfl rfl ?_
  refine rc_getR (ci := 11) (q := 1) zc_M4 (Nat.le_of_ble_eq_true rfl) rfl (by decide +kernel) g_X11_9 rfl d_X11_init_19 ?_
  refine rc_call (d2 := 0) (av := [.ref 2, .ref 1]) (M2 := Mc_6) zc_M4 zc_M6 zc_M216 (Nat.le_of_ble_eq_true rfl) (Nat.le_of_ble_eq_true rfl) (z_runI ck_X8_init rfl rfl ml_X11_15 ci_X8_init rfl rfl (Nat.le_of_ble_eq_true rfl) d_X11_init_22) (ct_1 hst (by omega)) ?_
  refine rc_putF (ci := 11) zc_M6 (Nat.le_of_ble_eq_true rfl) rfl (M2 := Mc_7) rfl p_X11_18 rfl (by simp) rfl d_X11_init_25 ?_
  refine r_aload_n 0 d_X11_init_28 rfl rfl ?_
  refine rc_new (ci := 0) zc_M7 zc_M216 (i := 3) (Nat.le_of_ble_eq_true rfl) rfl (M2 := Mc_8) rfl zcf_0 zdv_0 cl_X11_22 it_X0 iz_X0 d_X11_init_29 ?_
  refine r_dup d_X11_init_32 rfl ?_
  refine rc_call (d2 := 0) (av := [.ref 3]) (M2 := Mc_24) zc_M8 zc_M24 zc_M216 (Nat.le_of_ble_eq_true rfl) (Nat.le_of_ble_eq_true rfl) (z_runIN ck_X0_init rfl rfl mn_X11_24 ci_X0_init rfl rfl (Nat.le_of_ble_eq_true rfl) d_X11_init_33) (ct_2 hst (by omega)) ?_
  refine rc_putF (ci := 11) zc_M24 (Nat.le_of_ble_eq_true rfl) rfl (M2 := Mc_25) rfl p_X11_25 rfl (by simp) rfl d_X11_init_36 ?_
  refine r_aload_n 0 d_X11_init_39 rfl rfl ?_
  refine rc_new (ci := 1) zc_M25 zc_M216 (i := 11) (Nat.le_of_ble_eq_true rfl) rfl (M2 := Mc_26) rfl zcf_1 zdv_1 cl_X11_29 it_X1 iz_X1 d_X11_init_40 ?_
  refine r_dup d_X11_init_43 rfl ?_
  refine r_aload_n 0 d_X11_init_44 rfl rfl ?_
  refine rc_getR (ci := 11) (q := 2) zc_M26 (Nat.le_of_ble_eq_true rfl) rfl (by decide +kernel) g_X11_18 rfl d_X11_init_45 ?_
  refine rc_call (d2 := 0) (av := [.ref 11, .ref 2]) (M2 := Mc_45) zc_M26 zc_M45 zc_M216 (Nat.le_of_ble_eq_true rfl) (Nat.le_of_ble_eq_true rfl) (z_runI ck_X1_init rfl rfl ml_X11_31 ci_X1_init rfl rfl (Nat.le_of_ble_eq_true rfl) d_X11_init_48) (ct_4 hst (by omega)) ?_
  refine rc_putF (ci := 11) zc_M45 (Nat.le_of_ble_eq_true rfl) rfl (M2 := Mc_46) rfl p_X11_34 rfl (by simp) rfl d_X11_init_51 ?_
  refine r_aload_n 0 d_X11_init_54 rfl rfl ?_
  refine rc_new (ci := 3) zc_M46 zc_M216 (i := 20) (Nat.le_of_ble_eq_true rfl) rfl (M2 := Mc_47) rfl zcf_3 zdv_3 cl_X11_38 it_X3 iz_X3 d_X11_init_55 ?_
  refine r_dup d_X11_init_58 rfl ?_
  refine rc_call (d2 := 0) (av := [.ref 20]) (M2 := Mc_49) zc_M47 zc_M49 zc_M216 (Nat.le_of_ble_eq_true rfl) (Nat.le_of_ble_eq_true rfl) (z_runIN ck_X3_init rfl rfl mn_X11_40 ci_X3_init rfl rfl (Nat.le_of_ble_eq_true rfl) d_X11_init_59) (ct_5 hst (by omega)) ?_
  refine rc_putF (ci := 11) zc_M49 (Nat.le_of_ble_eq_true rfl) rfl (M2 := Mc_50) rfl p_X11_41 rfl (by simp) rfl d_X11_init_62 ?_
  refine r_aload_n 0 d_X11_init_65 rfl rfl ?_
  refine rc_new (ci := 7) zc_M50 zc_M216 (i := 22) (Nat.le_of_ble_eq_true rfl) rfl (M2 := Mc_51) rfl zcf_7 zdv_7 cl_X11_45 it_X7 iz_X7 d_X11_init_66 ?_
  refine r_dup d_X11_init_69 rfl ?_
  refine r_aload_n 0 d_X11_init_70 rfl rfl ?_
  refine rc_getR (ci := 11) (q := 2) zc_M51 (Nat.le_of_ble_eq_true rfl) rfl (by decide +kernel) g_X11_18 rfl d_X11_init_71 ?_
  refine rc_call (d2 := 0) (av := [.ref 22, .ref 2]) (M2 := Mc_120) zc_M51 zc_M120 zc_M216 (Nat.le_of_ble_eq_true rfl) (Nat.le_of_ble_eq_true rfl) (z_runI ck_X7_init rfl rfl ml_X11_47 ci_X7_init rfl rfl (Nat.le_of_ble_eq_true rfl) d_X11_init_74) (ct_22 hst (by omega)) ?_
  refine rc_putF (ci := 11) zc_M120 (Nat.le_of_ble_eq_true rfl) rfl (M2 := Mc_121) rfl p_X11_48 rfl (by simp) rfl d_X11_init_77 ?_
  refine r_aload_n 0 d_X11_init_80 rfl rfl ?_
  refine rc_new (ci := 9) zc_M121 zc_M216 (i := 57) (Nat.le_of_ble_eq_true rfl) rfl (M2 := Mc_122) rfl zcf_9 zdv_9 cl_X11_52 it_X9 iz_X9 d_X11_init_81 ?_
  refine r_dup d_X11_init_84 rfl ?_
  refine rc_call (d2 := 0) (av := [.ref 57]) (M2 := Mc_132) zc_M122 zc_M132 zc_M216 (Nat.le_of_ble_eq_true rfl) (Nat.le_of_ble_eq_true rfl) (z_runIN ck_X9_init rfl rfl mn_X11_54 ci_X9_init rfl rfl (Nat.le_of_ble_eq_true rfl) d_X11_init_85) (ct_23 hst (by omega)) ?_
  refine rc_putF (ci := 11) zc_M132 (Nat.le_of_ble_eq_true rfl) rfl (M2 := Mc_133) rfl p_X11_55 rfl (by simp) rfl d_X11_init_88 ?_
  refine r_aload_n 0 d_X11_init_91 rfl rfl ?_
  refine rc_new (ci := 9) zc_M133 zc_M216 (i := 63) (Nat.le_of_ble_eq_true rfl) rfl (M2 := Mc_134) rfl zcf_9 zdv_9 cl_X11_52 it_X9 iz_X9 d_X11_init_92 ?_
  refine r_dup d_X11_init_95 rfl ?_
  refine rc_call (d2 := 0) (av := [.ref 63]) (M2 := Mc_144) zc_M134 zc_M144 zc_M216 (Nat.le_of_ble_eq_true rfl) (Nat.le_of_ble_eq_true rfl) (z_runIN ck_X9_init rfl rfl mn_X11_54 ci_X9_init rfl rfl (Nat.le_of_ble_eq_true rfl) d_X11_init_96) (ct_24 hst (by omega)) ?_
  refine rc_putF (ci := 11) zc_M144 (Nat.le_of_ble_eq_true rfl) rfl (M2 := Mc_145) rfl p_X11_59 rfl (by simp) rfl d_X11_init_99 ?_
  refine r_aload_n 0 d_X11_init_102 rfl rfl ?_
  refine rc_new (ci := 9) zc_M145 zc_M216 (i := 69) (Nat.le_of_ble_eq_true rfl) rfl (M2 := Mc_146) rfl zcf_9 zdv_9 cl_X11_52 it_X9 iz_X9 d_X11_init_103 ?_
  refine r_dup d_X11_init_106 rfl ?_
  refine rc_call (d2 := 0) (av := [.ref 69]) (M2 := Mc_156) zc_M146 zc_M156 zc_M216 (Nat.le_of_ble_eq_true rfl) (Nat.le_of_ble_eq_true rfl) (z_runIN ck_X9_init rfl rfl mn_X11_54 ci_X9_init rfl rfl (Nat.le_of_ble_eq_true rfl) d_X11_init_107) (ct_25 hst (by omega)) ?_
  refine rc_putF (ci := 11) zc_M156 (Nat.le_of_ble_eq_true rfl) rfl (M2 := Mc_157) rfl p_X11_62 rfl (by simp) rfl d_X11_init_110 ?_
  refine r_aload_n 0 d_X11_init_113 rfl rfl ?_
  refine rc_new (ci := 9) zc_M157 zc_M216 (i := 75) (Nat.le_of_ble_eq_true rfl) rfl (M2 := Mc_158) rfl zcf_9 zdv_9 cl_X11_52 it_X9 iz_X9 d_X11_init_114 ?_
  refine r_dup d_X11_init_117 rfl ?_
  refine rc_call (d2 := 0) (av := [.ref 75]) (M2 := Mc_168) zc_M158 zc_M168 zc_M216 (Nat.le_of_ble_eq_true rfl) (Nat.le_of_ble_eq_true rfl) (z_runIN ck_X9_init rfl rfl mn_X11_54 ci_X9_init rfl rfl (Nat.le_of_ble_eq_true rfl) d_X11_init_118) (ct_26 hst (by omega)) ?_
  refine rc_putF (ci := 11) zc_M168 (Nat.le_of_ble_eq_true rfl) rfl (M2 := Mc_169) rfl p_X11_65 rfl (by simp) rfl d_X11_init_121 ?_
  refine r_aload_n 0 d_X11_init_124 rfl rfl ?_
  refine rc_new (ci := 10) zc_M169 zc_M216 (i := 81) (Nat.le_of_ble_eq_true rfl) rfl (M2 := Mc_170) rfl zcf_10 zdv_10 cl_X11_68 it_X10 iz_X10 d_X11_init_125 ?_
  refine r_dup d_X11_init_128 rfl ?_
  refine r_aload_n 0 d_X11_init_129 rfl rfl ?_
  refine rc_getR (ci := 11) (q := 20) zc_M170 (Nat.le_of_ble_eq_true rfl) rfl (by decide +kernel) g_X11_41 rfl d_X11_init_130 ?_
  refine rc_call (d2 := 0) (av := [.ref 81, .ref 20]) (M2 := Mc_177) zc_M170 zc_M177 zc_M216 (Nat.le_of_ble_eq_true rfl) (Nat.le_of_ble_eq_true rfl) (z_runI ck_X10_init rfl rfl ml_X11_70 ci_X10_init rfl rfl (Nat.le_of_ble_eq_true rfl) d_X11_init_133) (ct_27 hst (by omega)) ?_
  refine rc_putF (ci := 11) zc_M177 (Nat.le_of_ble_eq_true rfl) rfl (M2 := Mc_178) rfl p_X11_73 rfl (by simp) rfl d_X11_init_136 ?_
  refine r_aload_n 0 d_X11_init_139 rfl rfl ?_
  refine rc_new (ci := 6) zc_M178 zc_M216 (i := 85) (Nat.le_of_ble_eq_true rfl) rfl (M2 := Mc_179) rfl zcf_6 zdv_6 cl_X11_77 it_X6 iz_X6 d_X11_init_140 ?_
  refine r_dup d_X11_init_143 rfl ?_
  refine rc_new (ci := 10) zc_M179 zc_M216 (i := 86) (Nat.le_of_ble_eq_true rfl) rfl (M2 := Mc_180) rfl zcf_10 zdv_10 cl_X11_68 it_X10 iz_X10 d_X11_init_144 ?_
  refine r_dup d_X11_init_147 rfl ?_
  refine r_aload_n 0 d_X11_init_148 rfl rfl ?_
  refine rc_getR (ci := 11) (q := 20) zc_M180 (Nat.le_of_ble_eq_true rfl) rfl (by decide +kernel) g_X11_41 rfl d_X11_init_149 ?_
  refine rc_call (d2 := 0) (av := [.ref 86, .ref 20]) (M2 := Mc_187) zc_M180 zc_M187 zc_M216 (Nat.le_of_ble_eq_true rfl) (Nat.le_of_ble_eq_true rfl) (z_runI ck_X10_init rfl rfl ml_X11_70 ci_X10_init rfl rfl (Nat.le_of_ble_eq_true rfl) d_X11_init_152) (ct_28 hst (by omega)) ?_
  refine rc_call (d2 := 0) (av := [.ref 85, .ref 86]) (M2 := Mc_188) zc_M187 zc_M188 zc_M216 (Nat.le_of_ble_eq_true rfl) (Nat.le_of_ble_eq_true rfl) (z_runI ck_X6_init rfl rfl ml_X11_79 ci_X6_init rfl rfl (Nat.le_of_ble_eq_true rfl) d_X11_init_155) (ct_29 hst (by omega)) ?_
  refine rc_putF (ci := 11) zc_M188 (Nat.le_of_ble_eq_true rfl) rfl (M2 := Mc_189) rfl p_X11_82 rfl (by simp) rfl d_X11_init_158 ?_
  refine r_aload_n 0 d_X11_init_161 rfl rfl ?_
  refine rc_new (ci := 4) zc_M189 zc_M216 (i := 90) (Nat.le_of_ble_eq_true rfl) rfl (M2 := Mc_190) rfl zcf_4 zdv_4 cl_X11_86 it_X4 iz_X4 d_X11_init_162 ?_
  refine r_dup d_X11_init_165 rfl ?_
  refine rc_call (d2 := 0) (av := [.ref 90]) (M2 := Mc_192) zc_M190 zc_M192 zc_M216 (Nat.le_of_ble_eq_true rfl) (Nat.le_of_ble_eq_true rfl) (z_runIN ck_X4_init rfl rfl mn_X11_88 ci_X4_init rfl rfl (Nat.le_of_ble_eq_true rfl) d_X11_init_166) (ct_30 hst (by omega)) ?_
  refine rc_putF (ci := 11) zc_M192 (Nat.le_of_ble_eq_true rfl) rfl (M2 := Mc_193) rfl p_X11_89 rfl (by simp) rfl d_X11_init_169 ?_
  refine r_aload_n 0 d_X11_init_172 rfl rfl ?_
  refine rc_new (ci := 2) zc_M193 zc_M216 (i := 92) (Nat.le_of_ble_eq_true rfl) rfl (M2 := Mc_194) rfl zcf_2 zdv_2 cl_X11_93 it_X2 iz_X2 d_X11_init_173 ?_
  refine r_dup d_X11_init_176 rfl ?_
  refine rc_call (d2 := 0) (av := [.ref 92]) (M2 := Mc_202) zc_M194 zc_M202 zc_M216 (Nat.le_of_ble_eq_true rfl) (Nat.le_of_ble_eq_true rfl) (z_runIN ck_X2_init rfl rfl mn_X11_95 ci_X2_init rfl rfl (Nat.le_of_ble_eq_true rfl) d_X11_init_177) (ct_31 hst (by omega)) ?_
  refine rc_putF (ci := 11) zc_M202 (Nat.le_of_ble_eq_true rfl) rfl (M2 := Mc_203) rfl p_X11_96 rfl (by simp) rfl d_X11_init_180 ?_
  refine r_aload_n 0 d_X11_init_183 rfl rfl ?_
  refine rc_new (ci := 5) zc_M203 zc_M216 (i := 97) (Nat.le_of_ble_eq_true rfl) rfl (M2 := Mc_204) rfl zcf_5 zdv_5 cl_X11_100 it_X5 iz_X5 d_X11_init_184 ?_
  refine r_dup d_X11_init_187 rfl ?_
  refine rc_call (d2 := 0) (av := [.ref 97]) (M2 := Mc_210) zc_M204 zc_M210 zc_M216 (Nat.le_of_ble_eq_true rfl) (Nat.le_of_ble_eq_true rfl) (z_runIN ck_X5_init rfl rfl mn_X11_102 ci_X5_init rfl rfl (Nat.le_of_ble_eq_true rfl) d_X11_init_188) (ct_32 hst (by omega)) ?_
  refine rc_putF (ci := 11) zc_M210 (Nat.le_of_ble_eq_true rfl) rfl (M2 := Mc_211) rfl p_X11_103 rfl (by simp) rfl d_X11_init_191 ?_
  refine r_aload_n 0 d_X11_init_194 rfl rfl ?_
  refine r_bipush (34 : Int32) d_X11_init_195 rfl ?_
  refine rc_newa (t := 0) (ty := .int) zc_M211 zc_M216 (i := 101) (Nat.le_of_ble_eq_true rfl) rfl (M2 := Mc_212) rfl rfl (by decide) ac_int (by decide) rfl (Nat.le_of_ble_eq_true rfl) d_X11_init_197 ?_
  refine rc_putF (ci := 11) zc_M212 (Nat.le_of_ble_eq_true rfl) rfl (M2 := Mc_213) rfl p_X11_107 rfl (by simp) rfl d_X11_init_199 ?_
  refine r_aload_n 0 d_X11_init_202 rfl rfl ?_
  refine rc_getR (ci := 11) (q := 20) zc_M213 (Nat.le_of_ble_eq_true rfl) rfl (by decide +kernel) g_X11_41 rfl d_X11_init_203 ?_
  refine r_iconst (0 : Int32) d_X11_init_206 rfl ?_
  refine rc_call (d2 := 0) (av := [.ref 20, .int (0)]) (M2 := Mc_215) zc_M213 zc_M215 zc_M216 (Nat.le_of_ble_eq_true rfl) (Nat.le_of_ble_eq_true rfl) (z_runV (ci := 3) ck_X3_beOne rfl ml_X11_111 ci_X3_beOne cv_X3_beOne (zc_M213.at (Nat.le_of_ble_eq_true rfl) rfl) (T := zT3) rfl rfl (Nat.le_of_ble_eq_true rfl) d_X11_init_207) (ct_33 hst (by omega)) ?_
  refine r_aload_n 0 d_X11_init_210 rfl rfl ?_
  refine rc_getR (ci := 11) (q := 101) zc_M215 (Nat.le_of_ble_eq_true rfl) rfl (by decide +kernel) g_X11_107 rfl d_X11_init_211 ?_
  refine r_ldc d_X11_init_214 cc_X11_115 ?_
  refine rc_call (d2 := 0) (av := [.ref 101, .int (-1000000 : Int32)]) (M2 := Mc_216) zc_M215 zc_M216 zc_M216 (Nat.le_of_ble_eq_true rfl) (Nat.le_of_ble_eq_true rfl) (z_runS ck_JA_fill2 rfl ml_X11_116 cs_JA_fill2 rfl (Nat.le_of_ble_eq_true rfl) d_X11_init_216) (by
      have h := s_JA_fillC (X := X) (Sh := Mc_215.1) (d := d) hst (by omega) (a0 := 101) (n0 := 34) (v1 := (-1000000 : Int32)) (zc_M215.at (Nat.le_of_ble_eq_true rfl) rfl) (by decide) (D := Mc_215.2)
      rw [fill_eq (by decide)] at h
      exact h) ?_
  exact r_vret rfl d_X11_init_219
def Mc_217 : zM := zAl Mc_216 (19, 57)
theorem zc_M217 : zC0 Mc_217 103 := zc_M216.al rfl
def Mc_218 : zM := (Mc_217.1, sI Mc_217.2 102 3 (-1 : Int32))
theorem zc_M218 : zC0 Mc_218 103 := zc_M217.wD
def Mc_219 : zM := zAl Mc_218 (0, 500)
theorem zc_M219 : zC0 Mc_219 104 := zc_M218.al rfl
def Mc_220 : zM := sR Mc_219 102 9 103
theorem zc_M220 : zC0 Mc_220 104 := zc_M219.wR
def Mc_221 : zM := (Mc_220.1, sI Mc_220.2 102 14 (6 : Int32))
theorem zc_M221 : zC0 Mc_221 104 := zc_M220.wD
def Mc_222 : zM := (Mc_221.1, sI Mc_221.2 102 15 (5 : Int32))
theorem zc_M222 : zC0 Mc_222 104 := zc_M221.wD
def Mc_223 : zM := zAl Mc_222 (0, 12)
theorem zc_M223 : zC0 Mc_223 105 := zc_M222.al rfl
def Mc_224 : zM := sR Mc_223 102 18 104
theorem zc_M224 : zC0 Mc_224 105 := zc_M223.wR
def Mc_225 : zM := zAl Mc_224 (0, 12)
theorem zc_M225 : zC0 Mc_225 106 := zc_M224.al rfl
def Mc_226 : zM := sR Mc_225 102 19 105
theorem zc_M226 : zC0 Mc_226 106 := zc_M225.wR
def Mc_227 : zM := zAl Mc_226 (0, 12)
theorem zc_M227 : zC0 Mc_227 107 := zc_M226.al rfl
def Mc_228 : zM := sR Mc_227 102 20 106
theorem zc_M228 : zC0 Mc_228 107 := zc_M227.wR
def Mc_229 : zM := zAl Mc_228 (0, 12)
theorem zc_M229 : zC0 Mc_229 108 := zc_M228.al rfl
def Mc_230 : zM := sR Mc_229 102 21 107
theorem zc_M230 : zC0 Mc_230 108 := zc_M229.wR
def Mc_231 : zM := zAl Mc_230 (0, 8)
theorem zc_M231 : zC0 Mc_231 109 := zc_M230.al rfl
def Mc_232 : zM := sR Mc_231 102 22 108
theorem zc_M232 : zC0 Mc_232 109 := zc_M231.wR
def Mc_233 : zM := zAl Mc_232 (0, 8)
theorem zc_M233 : zC0 Mc_233 110 := zc_M232.al rfl
def Mc_234 : zM := sR Mc_233 102 23 109
theorem zc_M234 : zC0 Mc_234 110 := zc_M233.wR
def Mc_235 : zM := zAm Mc_234 4 8 6
theorem zc_M235 : zC0 Mc_235 119 := zc_M234.am (by decide +kernel) (by decide +kernel)
def Mc_236 : zM := sR Mc_235 102 24 110
theorem zc_M236 : zC0 Mc_236 119 := zc_M235.wR
def Mc_237 : zM := zAm Mc_236 4 8 6
theorem zc_M237 : zC0 Mc_237 128 := zc_M236.am (by decide +kernel) (by decide +kernel)
def Mc_238 : zM := sR Mc_237 102 25 119
theorem zc_M238 : zC0 Mc_238 128 := zc_M237.wR
def Mc_239 : zM := (Mc_238.1, sI Mc_238.2 102 26 (1 : Int32))
theorem zc_M239 : zC0 Mc_239 128 := zc_M238.wD
def Mc_240 : zM := zAl Mc_239 (0, 500)
theorem zc_M240 : zC0 Mc_240 129 := zc_M239.al rfl
def Mc_241 : zM := sR Mc_240 102 28 128
theorem zc_M241 : zC0 Mc_241 129 := zc_M240.wR
def Mc_242 : zM := zAm Mc_241 4 30 501
theorem zc_M242 : zC0 Mc_242 160 := zc_M241.am (by decide +kernel) (by decide +kernel)
def Mc_243 : zM := sR Mc_242 102 29 129
theorem zc_M243 : zC0 Mc_243 160 := zc_M242.wR
def Mc_244 : zM := zAl Mc_243 (0, 30)
theorem zc_M244 : zC0 Mc_244 161 := zc_M243.al rfl
def Mc_245 : zM := sR Mc_244 102 30 160
theorem zc_M245 : zC0 Mc_245 161 := zc_M244.wR
def Mc_246 : zM := zAl Mc_245 (0, 501)
theorem zc_M246 : zC0 Mc_246 162 := zc_M245.al rfl
def Mc_247 : zM := sR Mc_246 102 31 161
theorem zc_M247 : zC0 Mc_247 162 := zc_M246.wR
def Mc_248 : zM := zAm Mc_247 4 6 2
theorem zc_M248 : zC0 Mc_248 169 := zc_M247.am (by decide +kernel) (by decide +kernel)
def Mc_249 : zM := sR Mc_248 102 39 162
theorem zc_M249 : zC0 Mc_249 169 := zc_M248.wR
def Mc_250 : zM := zAm Mc_249 4 8 3
theorem zc_M250 : zC0 Mc_250 178 := zc_M249.am (by decide +kernel) (by decide +kernel)
def Mc_251 : zM := sR Mc_250 102 40 169
theorem zc_M251 : zC0 Mc_251 178 := zc_M250.wR
def Mc_252 : zM := zAm Mc_251 4 3 64
theorem zc_M252 : zC0 Mc_252 182 := zc_M251.am (by decide +kernel) (by decide +kernel)
def Mc_253 : zM := sR Mc_252 102 41 178
theorem zc_M253 : zC0 Mc_253 182 := zc_M252.wR
def Mc_254 : zM := zAm Mc_253 5 12 12
theorem zc_M254 : zC0 Mc_254 195 := zc_M253.am (by decide +kernel) (by decide +kernel)
def Mc_255 : zM := sR Mc_254 102 42 182
theorem zc_M255 : zC0 Mc_255 195 := zc_M254.wR
def Mc_256 : zM := zAl Mc_255 (0, 12)
theorem zc_M256 : zC0 Mc_256 196 := zc_M255.al rfl
def Mc_257 : zM := sR Mc_256 102 43 195
theorem zc_M257 : zC0 Mc_257 196 := zc_M256.wR
def Mc_258 : zM := zAl Mc_257 (0, 30)
theorem zc_M258 : zC0 Mc_258 197 := zc_M257.al rfl
def Mc_259 : zM := sR Mc_258 102 44 196
theorem zc_M259 : zC0 Mc_259 197 := zc_M258.wR
def Mc_260 : zM := zAl Mc_259 (0, 30)
theorem zc_M260 : zC0 Mc_260 198 := zc_M259.al rfl
def Mc_261 : zM := sR Mc_260 102 45 197
theorem zc_M261 : zC0 Mc_261 198 := zc_M260.wR
def Mc_262 : zM := zAl Mc_261 (0, 30)
theorem zc_M262 : zC0 Mc_262 199 := zc_M261.al rfl
def Mc_263 : zM := sR Mc_262 102 46 198
theorem zc_M263 : zC0 Mc_263 199 := zc_M262.wR
def Mc_264 : zM := zAl Mc_263 (3, 30)
theorem zc_M264 : zC0 Mc_264 200 := zc_M263.al rfl
def Mc_265 : zM := sR Mc_264 102 47 199
theorem zc_M265 : zC0 Mc_265 200 := zc_M264.wR
def Mc_266 : zM := zAl Mc_265 (0, 4096)
theorem zc_M266 : zC0 Mc_266 201 := zc_M265.al rfl
def Mc_267 : zM := sR Mc_266 102 50 200
theorem zc_M267 : zC0 Mc_267 201 := zc_M266.wR
def Mc_268 : zM := zAl Mc_267 (3, 4096)
theorem zc_M268 : zC0 Mc_268 202 := zc_M267.al rfl
def Mc_269 : zM := sR Mc_268 102 51 201
theorem zc_M269 : zC0 Mc_269 202 := zc_M268.wR
def Mc_270 : zM := zAl Mc_269 (1, 64)
theorem zc_M270 : zC0 Mc_270 203 := zc_M269.al rfl
def Mc_271 : zM := sR Mc_270 102 52 202
theorem zc_M271 : zC0 Mc_271 203 := zc_M270.wR
def Mc_272 : zM := zAl Mc_271 (0, 4096)
theorem zc_M272 : zC0 Mc_272 204 := zc_M271.al rfl
def Mc_273 : zM := sR Mc_272 102 54 203
theorem zc_M273 : zC0 Mc_273 204 := zc_M272.wR
def Mc_274 : zM := zAl Mc_273 (0, 8)
theorem zc_M274 : zC0 Mc_274 205 := zc_M273.al rfl
def Mc_275 : zM := sR Mc_274 102 55 204
theorem zc_M275 : zC0 Mc_275 205 := zc_M274.wR
def Mc_276 : zM := zAl Mc_275 (0, 8)
theorem zc_M276 : zC0 Mc_276 206 := zc_M275.al rfl
def Mc_277 : zM := sR Mc_276 102 56 205
theorem zc_M277 : zC0 Mc_277 206 := zc_M276.wR
theorem ct_35 {X : zX} {d : Nat} (hst : (zl X).stackTraces = false) (hd : 2 ≤ d) : Sd X m_X12_init d [.ref 102] Mc_217 (some (.inl none, Mc_277)) := by
  obtain ⟨d, rfl⟩ : ∃ e, d = e + 1 := ⟨d - 1, by omega⟩
  refine z_body ck_X12_init rfl (Nat.le_of_ble_eq_true rfl) rfl hst ?_
  show Rn X m_X12_init (d + 1) 0 [(0, .ref 102)] [] Mc_217 _
  refine r_aload_n 0 d_X12_init_0 rfl rfl ?_
  refine r_objInit ml_X12_1 oi_i oi_c (by omega) (Nat.le_of_ble_eq_true rfl) d_X12_init_1 ?_
  refine r_aload_n 0 d_X12_init_4 rfl rfl ?_
  refine r_iconst (-1 : Int32) d_X12_init_5 rfl ?_
  refine rc_putI (ci := 12) zc_M217 (Nat.le_of_ble_eq_true rfl) rfl (M2 := Mc_218) rfl p_X12_9 rfl (by decide) d_X12_init_6 ?_
  refine r_aload_n 0 d_X12_init_9 rfl rfl ?_
  refine r_sipush (500 : Int32) d_X12_init_10 rfl ?_
  refine rc_newa (t := 0) (ty := .int) zc_M218 zc_M277 (i := 103) (Nat.le_of_ble_eq_true rfl) rfl (M2 := Mc_219) rfl rfl (by decide) ac_int (by decide) rfl (Nat.le_of_ble_eq_true rfl) d_X12_init_13 ?_
  refine rc_putF (ci := 12) zc_M219 (Nat.le_of_ble_eq_true rfl) rfl (M2 := Mc_220) rfl p_X12_13 rfl (by simp) rfl d_X12_init_15 ?_
  refine r_aload_n 0 d_X12_init_18 rfl rfl ?_
  refine r_bipush (6 : Int32) d_X12_init_19 rfl ?_
  refine rc_putI (ci := 12) zc_M220 (Nat.le_of_ble_eq_true rfl) rfl (M2 := Mc_221) rfl p_X12_17 rfl (by decide) d_X12_init_21 ?_
  refine r_aload_n 0 d_X12_init_24 rfl rfl ?_
  refine r_iconst (5 : Int32) d_X12_init_25 rfl ?_
  refine rc_putI (ci := 12) zc_M221 (Nat.le_of_ble_eq_true rfl) rfl (M2 := Mc_222) rfl p_X12_20 rfl (by decide) d_X12_init_26 ?_
  refine r_aload_n 0 d_X12_init_29 rfl rfl ?_
  refine r_bipush (12 : Int32) d_X12_init_30 rfl ?_
  refine rc_newa (t := 0) (ty := .int) zc_M222 zc_M277 (i := 104) (Nat.le_of_ble_eq_true rfl) rfl (M2 := Mc_223) rfl rfl (by decide) ac_int (by decide) rfl (Nat.le_of_ble_eq_true rfl) d_X12_init_32 ?_
  refine rc_putF (ci := 12) zc_M223 (Nat.le_of_ble_eq_true rfl) rfl (M2 := Mc_224) rfl p_X12_23 rfl (by simp) rfl d_X12_init_34 ?_
  refine r_aload_n 0 d_X12_init_37 rfl rfl ?_
  refine r_bipush (12 : Int32) d_X12_init_38 rfl ?_
  refine rc_newa (t := 0) (ty := .int) zc_M224 zc_M277 (i := 105) (Nat.le_of_ble_eq_true rfl) rfl (M2 := Mc_225) rfl rfl (by decide) ac_int (by decide) rfl (Nat.le_of_ble_eq_true rfl) d_X12_init_40 ?_
  refine rc_putF (ci := 12) zc_M225 (Nat.le_of_ble_eq_true rfl) rfl (M2 := Mc_226) rfl p_X12_26 rfl (by simp) rfl d_X12_init_42 ?_
  refine r_aload_n 0 d_X12_init_45 rfl rfl ?_
  refine r_bipush (12 : Int32) d_X12_init_46 rfl ?_
  refine rc_newa (t := 0) (ty := .int) zc_M226 zc_M277 (i := 106) (Nat.le_of_ble_eq_true rfl) rfl (M2 := Mc_227) rfl rfl (by decide) ac_int (by decide) rfl (Nat.le_of_ble_eq_true rfl) d_X12_init_48 ?_
  refine rc_putF (ci := 12) zc_M227 (Nat.le_of_ble_eq_true rfl) rfl (M2 := Mc_228) rfl p_X12_29 rfl (by simp) rfl d_X12_init_50 ?_
  refine r_aload_n 0 d_X12_init_53 rfl rfl ?_
  refine r_bipush (12 : Int32) d_X12_init_54 rfl ?_
  refine rc_newa (t := 0) (ty := .int) zc_M228 zc_M277 (i := 107) (Nat.le_of_ble_eq_true rfl) rfl (M2 := Mc_229) rfl rfl (by decide) ac_int (by decide) rfl (Nat.le_of_ble_eq_true rfl) d_X12_init_56 ?_
  refine rc_putF (ci := 12) zc_M229 (Nat.le_of_ble_eq_true rfl) rfl (M2 := Mc_230) rfl p_X12_32 rfl (by simp) rfl d_X12_init_58 ?_
  refine r_aload_n 0 d_X12_init_61 rfl rfl ?_
  refine r_bipush (8 : Int32) d_X12_init_62 rfl ?_
  refine rc_newa (t := 0) (ty := .int) zc_M230 zc_M277 (i := 108) (Nat.le_of_ble_eq_true rfl) rfl (M2 := Mc_231) rfl rfl (by decide) ac_int (by decide) rfl (Nat.le_of_ble_eq_true rfl) d_X12_init_64 ?_
  refine rc_putF (ci := 12) zc_M231 (Nat.le_of_ble_eq_true rfl) rfl (M2 := Mc_232) rfl p_X12_35 rfl (by simp) rfl d_X12_init_66 ?_
  refine r_aload_n 0 d_X12_init_69 rfl rfl ?_
  refine r_bipush (8 : Int32) d_X12_init_70 rfl ?_
  refine rc_newa (t := 0) (ty := .int) zc_M232 zc_M277 (i := 109) (Nat.le_of_ble_eq_true rfl) rfl (M2 := Mc_233) rfl rfl (by decide) ac_int (by decide) rfl (Nat.le_of_ble_eq_true rfl) d_X12_init_72 ?_
  refine rc_putF (ci := 12) zc_M233 (Nat.le_of_ble_eq_true rfl) rfl (M2 := Mc_234) rfl p_X12_38 rfl (by simp) rfl d_X12_init_74 ?_
  refine r_aload_n 0 d_X12_init_77 rfl rfl ?_
  refine r_bipush (8 : Int32) d_X12_init_78 rfl ?_
  refine r_bipush (6 : Int32) d_X12_init_80 rfl ?_
  refine rc_mna (t := 4) (ty := .int) zc_M234 zc_M277 (i := 110) (M2 := Mc_235) zc_M235 (Nat.le_of_ble_eq_true rfl) rfl (by decide) (by rw [z_mnI]; exact cl_X12_41) ac_int (by decide) (by decide) rfl rfl (by decide) d_X12_init_82 ?_
  refine rc_putF (ci := 12) zc_M235 (Nat.le_of_ble_eq_true rfl) rfl (M2 := Mc_236) rfl p_X12_43 rfl (by simp) rfl d_X12_init_86 ?_
  refine r_aload_n 0 d_X12_init_89 rfl rfl ?_
  refine r_bipush (8 : Int32) d_X12_init_90 rfl ?_
  refine r_bipush (6 : Int32) d_X12_init_92 rfl ?_
  refine rc_mna (t := 4) (ty := .int) zc_M236 zc_M277 (i := 119) (M2 := Mc_237) zc_M237 (Nat.le_of_ble_eq_true rfl) rfl (by decide) (by rw [z_mnI]; exact cl_X12_41) ac_int (by decide) (by decide) rfl rfl (by decide) d_X12_init_94 ?_
  refine rc_putF (ci := 12) zc_M237 (Nat.le_of_ble_eq_true rfl) rfl (M2 := Mc_238) rfl p_X12_46 rfl (by simp) rfl d_X12_init_98 ?_
  refine r_aload_n 0 d_X12_init_101 rfl rfl ?_
  refine r_iconst (1 : Int32) d_X12_init_102 rfl ?_
  refine rc_putI (ci := 12) zc_M238 (Nat.le_of_ble_eq_true rfl) rfl (M2 := Mc_239) rfl p_X12_49 rfl (by decide) d_X12_init_103 ?_
  refine r_aload_n 0 d_X12_init_106 rfl rfl ?_
  refine r_sipush (500 : Int32) d_X12_init_107 rfl ?_
  refine rc_newa (t := 0) (ty := .int) zc_M239 zc_M277 (i := 128) (Nat.le_of_ble_eq_true rfl) rfl (M2 := Mc_240) rfl rfl (by decide) ac_int (by decide) rfl (Nat.le_of_ble_eq_true rfl) d_X12_init_110 ?_
  refine rc_putF (ci := 12) zc_M240 (Nat.le_of_ble_eq_true rfl) rfl (M2 := Mc_241) rfl p_X12_52 rfl (by simp) rfl d_X12_init_112 ?_
  refine r_aload_n 0 d_X12_init_115 rfl rfl ?_
  refine r_bipush (30 : Int32) d_X12_init_116 rfl ?_
  refine r_sipush (501 : Int32) d_X12_init_118 rfl ?_
  refine rc_mna (t := 4) (ty := .int) zc_M241 zc_M277 (i := 129) (M2 := Mc_242) zc_M242 (Nat.le_of_ble_eq_true rfl) rfl (by decide) (by rw [z_mnI]; exact cl_X12_41) ac_int (by decide) (by decide) rfl rfl (by decide) d_X12_init_121 ?_
  refine rc_putF (ci := 12) zc_M242 (Nat.le_of_ble_eq_true rfl) rfl (M2 := Mc_243) rfl p_X12_55 rfl (by simp) rfl d_X12_init_125 ?_
  refine r_aload_n 0 d_X12_init_128 rfl rfl ?_
  refine r_bipush (30 : Int32) d_X12_init_129 rfl ?_
  refine rc_newa (t := 0) (ty := .int) zc_M243 zc_M277 (i := 160) (Nat.le_of_ble_eq_true rfl) rfl (M2 := Mc_244) rfl rfl (by decide) ac_int (by decide) rfl (Nat.le_of_ble_eq_true rfl) d_X12_init_131 ?_
  refine rc_putF (ci := 12) zc_M244 (Nat.le_of_ble_eq_true rfl) rfl (M2 := Mc_245) rfl p_X12_58 rfl (by simp) rfl d_X12_init_133 ?_
  refine r_aload_n 0 d_X12_init_136 rfl rfl ?_
  refine r_sipush (501 : Int32) d_X12_init_137 rfl ?_
  refine rc_newa (t := 0) (ty := .int) zc_M245 zc_M277 (i := 161) (Nat.le_of_ble_eq_true rfl) rfl (M2 := Mc_246) rfl rfl (by decide) ac_int (by decide) rfl (Nat.le_of_ble_eq_true rfl) d_X12_init_140 ?_
  refine rc_putF (ci := 12) zc_M246 (Nat.le_of_ble_eq_true rfl) rfl (M2 := Mc_247) rfl p_X12_61 rfl (by simp) rfl d_X12_init_142 ?_
  refine r_aload_n 0 d_X12_init_145 rfl rfl ?_
  refine r_bipush (6 : Int32) d_X12_init_146 rfl ?_
  refine r_iconst (2 : Int32) d_X12_init_148 rfl ?_
  refine rc_mna (t := 4) (ty := .int) zc_M247 zc_M277 (i := 162) (M2 := Mc_248) zc_M248 (Nat.le_of_ble_eq_true rfl) rfl (by decide) (by rw [z_mnI]; exact cl_X12_41) ac_int (by decide) (by decide) rfl rfl (by decide) d_X12_init_149 ?_
  refine rc_putF (ci := 12) zc_M248 (Nat.le_of_ble_eq_true rfl) rfl (M2 := Mc_249) rfl p_X12_64 rfl (by simp) rfl d_X12_init_153 ?_
  refine r_aload_n 0 d_X12_init_156 rfl rfl ?_
  refine r_bipush (8 : Int32) d_X12_init_157 rfl ?_
  refine r_iconst (3 : Int32) d_X12_init_159 rfl ?_
  refine rc_mna (t := 4) (ty := .int) zc_M249 zc_M277 (i := 169) (M2 := Mc_250) zc_M250 (Nat.le_of_ble_eq_true rfl) rfl (by decide) (by rw [z_mnI]; exact cl_X12_41) ac_int (by decide) (by decide) rfl rfl (by decide) d_X12_init_160 ?_
  refine rc_putF (ci := 12) zc_M250 (Nat.le_of_ble_eq_true rfl) rfl (M2 := Mc_251) rfl p_X12_67 rfl (by simp) rfl d_X12_init_164 ?_
  refine r_aload_n 0 d_X12_init_167 rfl rfl ?_
  refine r_iconst (3 : Int32) d_X12_init_168 rfl ?_
  refine r_bipush (64 : Int32) d_X12_init_169 rfl ?_
  refine rc_mna (t := 4) (ty := .int) zc_M251 zc_M277 (i := 178) (M2 := Mc_252) zc_M252 (Nat.le_of_ble_eq_true rfl) rfl (by decide) (by rw [z_mnI]; exact cl_X12_41) ac_int (by decide) (by decide) rfl rfl (by decide) d_X12_init_171 ?_
  refine rc_putF (ci := 12) zc_M252 (Nat.le_of_ble_eq_true rfl) rfl (M2 := Mc_253) rfl p_X12_70 rfl (by simp) rfl d_X12_init_175 ?_
  refine r_aload_n 0 d_X12_init_178 rfl rfl ?_
  refine r_bipush (12 : Int32) d_X12_init_179 rfl ?_
  refine r_bipush (12 : Int32) d_X12_init_181 rfl ?_
  refine rc_mna (t := 5) (ty := .boolean) zc_M253 zc_M277 (i := 182) (M2 := Mc_254) zc_M254 (Nat.le_of_ble_eq_true rfl) rfl (by decide) (by rw [z_mnZ]; exact cl_X12_73) ac_boolean (by decide) (by decide) rfl rfl (by decide) d_X12_init_183 ?_
  refine rc_putF (ci := 12) zc_M254 (Nat.le_of_ble_eq_true rfl) rfl (M2 := Mc_255) rfl p_X12_75 rfl (by simp) rfl d_X12_init_187 ?_
  refine r_aload_n 0 d_X12_init_190 rfl rfl ?_
  refine r_bipush (12 : Int32) d_X12_init_191 rfl ?_
  refine rc_newa (t := 0) (ty := .int) zc_M255 zc_M277 (i := 195) (Nat.le_of_ble_eq_true rfl) rfl (M2 := Mc_256) rfl rfl (by decide) ac_int (by decide) rfl (Nat.le_of_ble_eq_true rfl) d_X12_init_193 ?_
  refine rc_putF (ci := 12) zc_M256 (Nat.le_of_ble_eq_true rfl) rfl (M2 := Mc_257) rfl p_X12_78 rfl (by simp) rfl d_X12_init_195 ?_
  refine r_aload_n 0 d_X12_init_198 rfl rfl ?_
  refine r_bipush (30 : Int32) d_X12_init_199 rfl ?_
  refine rc_newa (t := 0) (ty := .int) zc_M257 zc_M277 (i := 196) (Nat.le_of_ble_eq_true rfl) rfl (M2 := Mc_258) rfl rfl (by decide) ac_int (by decide) rfl (Nat.le_of_ble_eq_true rfl) d_X12_init_201 ?_
  refine rc_putF (ci := 12) zc_M258 (Nat.le_of_ble_eq_true rfl) rfl (M2 := Mc_259) rfl p_X12_81 rfl (by simp) rfl d_X12_init_203 ?_
  refine r_aload_n 0 d_X12_init_206 rfl rfl ?_
  refine r_bipush (30 : Int32) d_X12_init_207 rfl ?_
  refine rc_newa (t := 0) (ty := .int) zc_M259 zc_M277 (i := 197) (Nat.le_of_ble_eq_true rfl) rfl (M2 := Mc_260) rfl rfl (by decide) ac_int (by decide) rfl (Nat.le_of_ble_eq_true rfl) d_X12_init_209 ?_
  refine rc_putF (ci := 12) zc_M260 (Nat.le_of_ble_eq_true rfl) rfl (M2 := Mc_261) rfl p_X12_84 rfl (by simp) rfl d_X12_init_211 ?_
  refine r_aload_n 0 d_X12_init_214 rfl rfl ?_
  refine r_bipush (30 : Int32) d_X12_init_215 rfl ?_
  refine rc_newa (t := 0) (ty := .int) zc_M261 zc_M277 (i := 198) (Nat.le_of_ble_eq_true rfl) rfl (M2 := Mc_262) rfl rfl (by decide) ac_int (by decide) rfl (Nat.le_of_ble_eq_true rfl) d_X12_init_217 ?_
  refine rc_putF (ci := 12) zc_M262 (Nat.le_of_ble_eq_true rfl) rfl (M2 := Mc_263) rfl p_X12_87 rfl (by simp) rfl d_X12_init_219 ?_
  refine r_aload_n 0 d_X12_init_222 rfl rfl ?_
  refine r_bipush (30 : Int32) d_X12_init_223 rfl ?_
  refine rc_newa (t := 3) (ty := .boolean) zc_M263 zc_M277 (i := 199) (Nat.le_of_ble_eq_true rfl) rfl (M2 := Mc_264) rfl rfl (by decide) ac_boolean (by decide) rfl (Nat.le_of_ble_eq_true rfl) d_X12_init_225 ?_
  refine rc_putF (ci := 12) zc_M264 (Nat.le_of_ble_eq_true rfl) rfl (M2 := Mc_265) rfl p_X12_90 rfl (by simp) rfl d_X12_init_227 ?_
  refine r_aload_n 0 d_X12_init_230 rfl rfl ?_
  refine r_sipush (4096 : Int32) d_X12_init_231 rfl ?_
  refine rc_newa (t := 0) (ty := .int) zc_M265 zc_M277 (i := 200) (Nat.le_of_ble_eq_true rfl) rfl (M2 := Mc_266) rfl rfl (by decide) ac_int (by decide) rfl (Nat.le_of_ble_eq_true rfl) d_X12_init_234 ?_
  refine rc_putF (ci := 12) zc_M266 (Nat.le_of_ble_eq_true rfl) rfl (M2 := Mc_267) rfl p_X12_94 rfl (by simp) rfl d_X12_init_236 ?_
  refine r_aload_n 0 d_X12_init_239 rfl rfl ?_
  refine r_sipush (4096 : Int32) d_X12_init_240 rfl ?_
  refine rc_newa (t := 3) (ty := .boolean) zc_M267 zc_M277 (i := 201) (Nat.le_of_ble_eq_true rfl) rfl (M2 := Mc_268) rfl rfl (by decide) ac_boolean (by decide) rfl (Nat.le_of_ble_eq_true rfl) d_X12_init_243 ?_
  refine rc_putF (ci := 12) zc_M268 (Nat.le_of_ble_eq_true rfl) rfl (M2 := Mc_269) rfl p_X12_97 rfl (by simp) rfl d_X12_init_245 ?_
  refine r_aload_n 0 d_X12_init_248 rfl rfl ?_
  refine r_bipush (64 : Int32) d_X12_init_249 rfl ?_
  refine rc_newa (t := 1) (ty := .long) zc_M269 zc_M277 (i := 202) (Nat.le_of_ble_eq_true rfl) rfl (M2 := Mc_270) rfl rfl (by decide) ac_long (by decide) rfl (Nat.le_of_ble_eq_true rfl) d_X12_init_251 ?_
  refine rc_putF (ci := 12) zc_M270 (Nat.le_of_ble_eq_true rfl) rfl (M2 := Mc_271) rfl p_X12_100 rfl (by simp) rfl d_X12_init_253 ?_
  refine r_aload_n 0 d_X12_init_256 rfl rfl ?_
  refine r_sipush (4096 : Int32) d_X12_init_257 rfl ?_
  refine rc_newa (t := 0) (ty := .int) zc_M271 zc_M277 (i := 203) (Nat.le_of_ble_eq_true rfl) rfl (M2 := Mc_272) rfl rfl (by decide) ac_int (by decide) rfl (Nat.le_of_ble_eq_true rfl) d_X12_init_260 ?_
  refine rc_putF (ci := 12) zc_M272 (Nat.le_of_ble_eq_true rfl) rfl (M2 := Mc_273) rfl p_X12_104 rfl (by simp) rfl d_X12_init_262 ?_
  refine r_aload_n 0 d_X12_init_265 rfl rfl ?_
  refine r_bipush (8 : Int32) d_X12_init_266 rfl ?_
  refine rc_newa (t := 0) (ty := .int) zc_M273 zc_M277 (i := 204) (Nat.le_of_ble_eq_true rfl) rfl (M2 := Mc_274) rfl rfl (by decide) ac_int (by decide) rfl (Nat.le_of_ble_eq_true rfl) d_X12_init_268 ?_
  refine rc_putF (ci := 12) zc_M274 (Nat.le_of_ble_eq_true rfl) rfl (M2 := Mc_275) rfl p_X12_107 rfl (by simp) rfl d_X12_init_270 ?_
  refine r_aload_n 0 d_X12_init_273 rfl rfl ?_
  refine r_bipush (8 : Int32) d_X12_init_274 rfl ?_
  refine rc_newa (t := 0) (ty := .int) zc_M275 zc_M277 (i := 205) (Nat.le_of_ble_eq_true rfl) rfl (M2 := Mc_276) rfl rfl (by decide) ac_int (by decide) rfl (Nat.le_of_ble_eq_true rfl) d_X12_init_276 ?_
  refine rc_putF (ci := 12) zc_M276 (Nat.le_of_ble_eq_true rfl) rfl (M2 := Mc_277) rfl p_X12_110 rfl (by simp) rfl d_X12_init_278 ?_
  exact r_vret rfl d_X12_init_281
def Mc_278 : zM := zAl Mc_277 (1, 1)
theorem zc_M278 : zC0 Mc_278 207 := zc_M277.al rfl
def zShC : zSh := (zK0, Mc_278.1.2.1, 0)
theorem z_sheq {M : zM} {l : List (Nat × Nat)} (h1 : M.1.1 = l) (h2 : M.1.2.2 = 0) : M.1 = (l, M.1.2.1, 0) := by
  obtain ⟨⟨a, b, c⟩, e⟩ := M
  cases h1
  cases h2
  rfl
theorem zKtk : zK0.take 207 = zK0 := by decide +kernel
theorem zShC_eq : Mc_278.1 = zShC := z_sheq (zc_M278.1.trans zKtk) zc_M278.2.1
theorem zRt_ok : ∀ t ∈ zRt, Mc_278.1.2.1 t.1 t.2.1 = some t.2.2 := by decide +kernel
theorem zShC_ok (x : Nat) : zSh0 (zK0, Mc_278.1.2.1, x + 1) := ⟨rfl, zRt_ok, Nat.succ_ne_zero x⟩
