/-! THE CLAIM OUT OF ONE WALK OF THE LAW'S BODY. Your part is whole_start (and what it stands on); all else here is the same for every law, but numbers. -/
def R_law : String := "CoveredSignsLaw"
def lw_P (b : Addr) (xs : List Int32) (args : Array Value) (s : State) : Prop := args = #[.ref b] ∧ s.IntsAt b xs ∧ xs.length ≤ 3072 ∧ (Jvm.Cond.and given_1 narrow_1).before args s = true
def lw_Q (_ : Array Value) (s : State) (o : Outcome) (t : State) : Prop := o = .returned (some (.int 1)) ∧ Framed s o t [] 601024 7293034
def lw_Z (below : List Frame) (a : Array Value) (s : State) : State → Prop := fun t => ∃ o, t.status = .running ∧ Ended t below o ∧ lw_Q a s o t
/-- the law's own end, with 1 on the stack, nothing written that was there before, its room as the claim has it -/
theorem lw_ret {p : Program} {l : Launch} {e : Env} {s : State} {m : MethodId} {below : List Frame} {meth : Method} {c : Code} {b : Nat} (hx : p.tables.exec = Jvm.exec) (hb : c.code = code) (hr : meth.sig.returnType = ret) (hlocks : meth.locks = false) {pc : Nat} {H : Heap} {ls : Array Slot} (hdg : decode code pc = .ok (.ireturn, 1)) : W p l e room_1 s m #[Value.ref b] below meth c H [] 601024 7293034 (lw_Z below #[Value.ref b] s) (F0 m pc ls [.int 1]) := by
  intro T hT X
  obtain ⟨fs, hret, hrun, hended, hW, hframe⟩ := X.leave (v := some (.int 1)) (hlocks := hlocks) (fun h => by rw [hr] at h; cases h)
  have hmeth' : T.vm.method? m = some meth := X.method'
  refine ⟨T.setFrames fs, ?_, .returned (some (.int 1)), hrun, hended, rfl, ⟨_, rfl⟩, hW, hframe⟩
  jvm_step X.here [X.here.top, hx, hb, hdg, hmeth', hr, ret, narrow_b1]
  (try refine ⟨rfl, ?_⟩); (try refine ⟨rfl, ?_⟩)
  first | (intro acts; rw [hret _ acts rfl rfl rfl]) | rw [hret _ _ rfl rfl rfl]
  exact Steps.refl _
/-- what holds at the law's entry: the machine, the code, the tables' words (any of lw_tbl by 'hts w (by decide +kernel)'), the script of L ints xs at the cell b, what the Statement gives of the start (any of its parts by flat_of_before) -/
def lw_At (p : Program) (s : State) (m : MethodId) (meth : Method) (c : Code) (b L : Nat) (xs : Nat → Int32) : Prop :=
  p.tables.exec = Jvm.exec ∧ c.code = code ∧ meth.sig.returnType = ret ∧ c.maxLocals = 7 ∧ s.vm.findClass R_law = some m.cls ∧ (∀ w ∈ lw_tbl, w.before #[Value.ref b] s = true) ∧ va_X b L xs s s.heap ∧ b < s.heap.size ∧ meth.locks = false ∧ (Jvm.Cond.and given_1 narrow_1).before #[Value.ref b] s = true ∧ meth.name = "law" ∧ c.exceptionTable.toList = []
/-- a world of the mini machine over the state at the entry -/
def z_zo (K V : Nat → Nat) (sio b L : Nat) (xs : Nat → Int32) : Nat → Nat := fun k => if k < 1001000 then K (k - 1000000) else if k < 1005000 then V (k - 1001000) else if k = 1005001 then sio else if k = 1006000 then b else if k = 1006001 then L else (xs (k - 2000000)).toUInt32.toNat
theorem z_ofNat_u (x : Int32) : Int32.ofNat x.toUInt32.toNat = x := by
  apply Int32.toBitVec_inj.mp
  simp [Int32.toBitVec_ofNat]
theorem z_classes {s : State} {args : Array Value} (hz : ∀ w ∈ z_T, w.before args s = true) : ∃ G : va_G, ∀ (k : Nat) (q : vw_C), z_cl[k]? = some q → u_Kn s q.1 q.2.1 q.2.2 (G.1 k) (G.2 k) := by
  obtain ⟨c0, i0, -⟩ := u_known (C := zR0) (T := zT0) (N := 12) (n := 12) hz zi0 (hz _ it_X0)
  have h : ∀ k : Nat, ∃ q : ClassId × (Nat → Nat), ∀ q0 : vw_C, z_cl[k]? = some q0 → u_Kn s q0.1 q0.2.1 q0.2.2 q.1 q.2 := by
    intro k
    match k with
    | 0 => obtain ⟨c, i, h⟩ := u_known (C := zR0) (T := zT0) (N := 12) (n := 12) hz zi0 (hz _ it_X0); exact ⟨(c, i), fun q0 e => by cases e; exact h⟩
    | 1 => obtain ⟨c, i, h⟩ := u_known (C := zR1) (T := zT1) (N := 2) (n := 2) hz zi1 (hz _ it_X1); exact ⟨(c, i), fun q0 e => by cases e; exact h⟩
    | 2 => obtain ⟨c, i, h⟩ := u_known (C := zR2) (T := zT2) (N := 6) (n := 6) hz zi2 (hz _ it_X2); exact ⟨(c, i), fun q0 e => by cases e; exact h⟩
    | 3 => obtain ⟨c, i, h⟩ := u_known (C := zR3) (T := zT3) (N := 2) (n := 2) hz zi3 (hz _ it_X3); exact ⟨(c, i), fun q0 e => by cases e; exact h⟩
    | 4 => obtain ⟨c, i, h⟩ := u_known (C := zR4) (T := zT4) (N := 4) (n := 4) hz zi4 (hz _ it_X4); exact ⟨(c, i), fun q0 e => by cases e; exact h⟩
    | 5 => obtain ⟨c, i, h⟩ := u_known (C := zR5) (T := zT5) (N := 3) (n := 3) hz zi5 (hz _ it_X5); exact ⟨(c, i), fun q0 e => by cases e; exact h⟩
    | 6 => obtain ⟨c, i, h⟩ := u_known (C := zR6) (T := zT6) (N := 4) (n := 4) hz zi6 (hz _ it_X6); exact ⟨(c, i), fun q0 e => by cases e; exact h⟩
    | 7 => obtain ⟨c, i, h⟩ := u_known (C := zR7) (T := zT7) (N := 7) (n := 7) hz zi7 (hz _ it_X7); exact ⟨(c, i), fun q0 e => by cases e; exact h⟩
    | 8 => obtain ⟨c, i, h⟩ := u_known (C := zR8) (T := zT8) (N := 5) (n := 5) hz zi8 (hz _ it_X8); exact ⟨(c, i), fun q0 e => by cases e; exact h⟩
    | 9 => obtain ⟨c, i, h⟩ := u_known (C := zR9) (T := zT9) (N := 8) (n := 8) hz zi9 (hz _ it_X9); exact ⟨(c, i), fun q0 e => by cases e; exact h⟩
    | 10 => obtain ⟨c, i, h⟩ := u_known (C := zR10) (T := zT10) (N := 8) (n := 8) hz zi10 (hz _ it_X10); exact ⟨(c, i), fun q0 e => by cases e; exact h⟩
    | 11 => obtain ⟨c, i, h⟩ := u_known (C := zR11) (T := zT11) (N := 19) (n := 19) hz zi11 (hz _ it_X11); exact ⟨(c, i), fun q0 e => by cases e; exact h⟩
    | 12 => obtain ⟨c, i, h⟩ := u_known (C := zR12) (T := zT12) (N := 57) (n := 57) hz zi12 (hz _ it_X12); exact ⟨(c, i), fun q0 e => by cases e; exact h⟩
    | k + 13 => exact ⟨(c0, i0), fun q0 e => absurd e (by simp)⟩
  obtain ⟨G, hG⟩ := Classical.axiomOfChoice h
  exact ⟨(fun k => (G k).1, fun k => (G k).2), fun k q hq => hG k q hq⟩
theorem z_arr1 {s : State} {args : Array Value} {ty : FieldType} (h : (Cond.arrayClass ty).before args s = true) : ∃ cA : ClassId, ArrOfT s cA ty ∧ s.vm.findClass ("[" ++ ty.toString) = some cA := by
  obtain ⟨cA, kA, comp, h1, h2, h3⟩ := Cond.arrayClass_spec h
  exact ⟨cA, fun n f => ⟨fun k h => by (cases h), kA, h2, comp, h3⟩, h1⟩
theorem z_arr2 {s : State} {args : Array Value} {ty : FieldType} (h : (Cond.arrayOver (.array ty)).before args s = true) : ∃ cA : ClassId, ArrOfT s cA (.array ty) ∧ s.vm.findClass ("[" ++ (FieldType.array ty).toString) = some cA := by
  obtain ⟨comp, cA, kA, -, -, h2, h3, h1⟩ := arrayOver_specB h
  exact ⟨cA, fun n f => ⟨fun k h => by (cases h), kA, h2, comp, h3⟩, h1⟩
theorem z_arr3 {s : State} {args : Array Value} {n : String} (h : (Cond.arrayOver (.object n)).before args s = true) : ∃ cA : ClassId, ArrOfT s cA (.object n) ∧ va_RA s cA (.object n) := by
  obtain ⟨comp, cA, kA, h0, -, h2, h3, h1⟩ := Cond.arrayOver_spec h
  exact ⟨cA, fun n f => ⟨fun k h => by (cases h), kA, h2, comp, h3⟩, kA, comp, h2, h3, h0, h1⟩
theorem z_arrs {s : State} {b : Nat} (hts : ∀ w ∈ lw_tbl, w.before #[Value.ref b] s = true) : ∃ A : Nat → ClassId, ∀ (k : Nat) (q : ClassId × FieldType), ([(A 0, .int), (A 1, .long), (A 2, .byte), (A 3, .boolean), (A 4, .array .int), (A 5, .array .boolean), (A 6, .object "CoveredSigns$Covers")] : List (ClassId × FieldType))[k]? = some q → ArrOfT s q.1 q.2 ∧ va_RA s q.1 q.2 := by
  obtain ⟨a0, p0, q0⟩ := z_arr1 (hts _ (z_in_tbl ac_int))
  obtain ⟨a1, p1, q1⟩ := z_arr1 (hts _ (z_in_tbl ac_long))
  obtain ⟨a2, p2, q2⟩ := z_arr1 (hts _ (z_in_tbl ac_byte))
  obtain ⟨a3, p3, q3⟩ := z_arr1 (hts _ (z_in_tbl ac_boolean))
  obtain ⟨a4, p4, q4⟩ := z_arr2 (hts (.arrayOver (.array .int)) (by decide +kernel))
  obtain ⟨a5, p5, q5⟩ := z_arr2 (hts (.arrayOver (.array .boolean)) (by decide +kernel))
  obtain ⟨a6, p6, q6⟩ := z_arr3 (hts (.arrayOver (.object "CoveredSigns$Covers")) (by decide +kernel))
  refine ⟨fun k => match k with | 0 => a0 | 1 => a1 | 2 => a2 | 3 => a3 | 4 => a4 | 5 => a5 | _ => a6, fun k q hq => ?_⟩
  match k, hq with
  | 0, hq => cases hq; exact ⟨p0, q0⟩
  | 1, hq => cases hq; exact ⟨p1, q1⟩
  | 2, hq => cases hq; exact ⟨p2, q2⟩
  | 3, hq => cases hq; exact ⟨p3, q3⟩
  | 4, hq => cases hq; exact ⟨p4, q4⟩
  | 5, hq => cases hq; exact ⟨p5, q5⟩
  | 6, hq => cases hq; exact ⟨p6, q6⟩
  | k + 7, hq => simp at hq
theorem z_Non {w : Cond} (h : zNk w = true) : w.onTables = true := by
  cases w <;> first | rfl | (simp [zNk] at h)
theorem z_nword {s : State} {args : Array Value} (hts : ∀ w ∈ lw_tbl, w.before args s = true) : ∀ w ∈ z_N, va_Nw w s := fun w hw => va_Nw.of (z_Non (List.mem_filter.mp hw).2) (hts w (List.mem_filter.mp hw).1)
theorem z_ncs {s : State} {b : Nat} (hs : ∀ w ∈ flatC (Jvm.Cond.and given_1 narrow_1), w.before #[Value.ref b] s = true) : ∀ q ∈ z_nc, va_Nc q.1 q.2 s := by
  have key : ∀ q ∈ z_nc, Cond.not (.castable q.1 q.2) ∈ flatC (Jvm.Cond.and given_1 narrow_1) := by decide +kernel
  exact fun q hq => va_Nc.of (hs _ (key q hq))
theorem z_strw : ∀ q ∈ z_str, Cond.stringRef q.1 q.2.1 q.2.2.1 ∈ lw_tbl ∧ q.2.2.2 < 31 ∧ z_tm q.2.2.2 = .string q.1 q.2.1 := by decide +kernel
theorem z_world {s : State} {b L : Nat} {xs : Nat → Int32} (l : Launch) (hts : ∀ w ∈ lw_tbl, w.before #[Value.ref b] s = true) (hX : va_X b L xs s s.heap) (hgv : (Jvm.Cond.and given_1 narrow_1).before #[Value.ref b] s = true) : ∃ X : zX, zl X = l ∧ zb X = s.heap.size ∧ zH X = s.heap ∧ zad X 1006000 = b ∧ zo X 1006001 = L ∧ (fun j => Int32.ofNat (zo X (2000000 + j))) = xs ∧ zKK X s := by
  have hs := z_flat hgv
  have hz : ∀ w ∈ z_T, w.before #[Value.ref b] s = true := fun w hw => hts w (z_in_tbl hw)
  have hA : ∀ a : Nat, a < s.heap.size → ¬ s.heap.size ≤ a := fun a h => Nat.not_le.mpr h
  obtain ⟨G, hG⟩ := z_classes hz
  obtain ⟨A, hAr⟩ := z_arrs hts
  obtain ⟨K, V, hKV⟩ := z_txx hs
  have hE0 : ∀ i : Nat, ∃ a : Nat, i < 31 → (z_tm i).eval #[Value.ref b] s none [] s = some (.ref a) := by
    intro i
    by_cases hi : i < 31
    · obtain ⟨a, h⟩ := z_ev hs i hi
      exact ⟨a, fun _ => h⟩
    · exact ⟨0, fun h => absurd h hi⟩
  obtain ⟨E, hE⟩ := Classical.axiomOfChoice hE0
  have hEK : ∀ i, i < 17 → E i = K i := fun i hi => by
    have h1 := hE i (by omega)
    rw [(hKV i hi).1] at h1
    simpa using h1.symm
  have hsz := vx_Zqof (A := fun q => s.heap.size ≤ q) (C := Bundle.tN) (n := "UNASSIGNED_STACK") (d := Bundle.steD) (hts (.laysStatic Bundle.tN "UNASSIGNED_STACK" Bundle.steD) (by decide +kernel)) (hts (.initialized Bundle.tN) (by decide +kernel)) (hs (.isRef (.static Bundle.tN "UNASSIGNED_STACK" Bundle.steD)) (by decide +kernel)) hA
  have hsy := vx_Zqof (A := fun q => s.heap.size ≤ q) (C := Bundle.tN) (n := "SUPPRESSED_SENTINEL") (d := Bundle.listD) (hts (.laysStatic Bundle.tN "SUPPRESSED_SENTINEL" Bundle.listD) (by decide +kernel)) (hts (.initialized Bundle.tN) (by decide +kernel)) (hs (.isRef (.static Bundle.tN "SUPPRESSED_SENTINEL" Bundle.listD)) (by decide +kernel)) hA
  have hcs : va_Z "java/lang/String" "COMPACT_STRINGS" "Z" (.int 1) (fun q => s.heap.size ≤ q) s s.heap := va_Zof (hts (.laysStatic "java/lang/String" "COMPACT_STRINGS" "Z") (by decide +kernel)) (hts (.initialized "java/lang/String") (by decide +kernel)) (va_eqt (hs (.eq (.static "java/lang/String" "COMPACT_STRINGS" "Z") (.int 1)) (by decide +kernel))) hA
  have hio := vx_Zqof (A := fun q => s.heap.size ≤ q) (C := "jdk/internal/util/Preconditions") (n := "SIOOBE_FORMATTER") (d := "Ljava/util/function/BiFunction;") (hts (.laysStatic "jdk/internal/util/Preconditions" "SIOOBE_FORMATTER" "Ljava/util/function/BiFunction;") (by decide +kernel)) (hts (.initialized "jdk/internal/util/Preconditions") (by decide +kernel)) (hs (.isRef (.static "jdk/internal/util/Preconditions" "SIOOBE_FORMATTER" "Ljava/util/function/BiFunction;")) (by decide +kernel)) hA
  obtain ⟨sio, hsio⟩ : ∃ t : Nat, va_Z "jdk/internal/util/Preconditions" "SIOOBE_FORMATTER" "Ljava/util/function/BiFunction;" .null (fun q => s.heap.size ≤ q) s s.heap ∨ va_Z "jdk/internal/util/Preconditions" "SIOOBE_FORMATTER" "Ljava/util/function/BiFunction;" (.ref t) (fun q => s.heap.size ≤ q) s s.heap := by
    rcases hio.1 with h | ⟨t, h⟩
    · exact ⟨0, Or.inl h⟩
    · exact ⟨t, Or.inr h⟩
  have eo1 : ∀ i, i < 1000 → z_zo E V sio b L xs (1000000 + i) = E i := fun i hi => by
    rw [z_zo, if_pos (by omega), Nat.add_sub_cancel_left]
  have eo2 : ∀ i, i < 1000 → z_zo E V sio b L xs (1001000 + i) = V i := fun i hi => by
    rw [z_zo, if_neg (by omega), if_pos (by omega), Nat.add_sub_cancel_left]
  have eo3 : (fun j => Int32.ofNat (z_zo E V sio b L xs (2000000 + j))) = xs := by
    funext j
    rw [z_zo, if_neg (by omega), if_neg (by omega), if_neg (by omega), if_neg (by omega), if_neg (by omega), Nat.add_sub_cancel_left, z_ofNat_u]
  have eo4 : z_zo E V sio b L xs 1006000 = b := by
    rw [z_zo, if_neg (by omega), if_neg (by omega), if_neg (by omega), if_pos rfl]
  have eo5 : z_zo E V sio b L xs 1006001 = L := by
    rw [z_zo, if_neg (by omega), if_neg (by omega), if_neg (by omega), if_neg (by omega), if_pos rfl]
  have eo6 : z_zo E V sio b L xs 1005001 = sio := by
    rw [z_zo, if_neg (by omega), if_neg (by omega), if_pos rfl]
  refine ⟨(l, G, A, s.heap.size, s.heap, z_zo E V sio b L xs), rfl, rfl, rfl, zad_scr.trans eo4, eo5, eo3, ⟨hG, hAr⟩, ⟨hsz, hsy⟩, fun q hq => ?_, ⟨⟨fun i hi => ?_, fun i j hi hj e => ?_⟩, hcs, ?_, fun ty ht => ?_, ?_⟩, z_nword hts, z_ncs hs⟩
  · obtain ⟨h1, h2, h3⟩ := z_strw q hq
    refine vk_R.of (A := #[Value.ref b]) (hts _ h1) ?_
    rw [← h3]
    show _ = some (Value.ref (z_zo E V sio b L xs (1000000 + q.2.2.2)))
    rw [eo1 _ (by omega)]
    exact hE _ h2
  · have hi' : i < 17 := hi
    obtain ⟨h1, h2, h3, h4, h5⟩ := hKV i hi'
    have e1 : z_zo E V sio b L xs (1000000 + i) = K i := (eo1 i (by omega)).trans (hEK i hi')
    have e2 := eo2 i (by omega)
    show va_O "java/lang/String" (z_zo E V sio b L xs (1000000 + i)) _ s s.heap ∧ va_OF "java/lang/String" "coder" "B" (.int 0) (z_zo E V sio b L xs (1000000 + i)) _ s s.heap ∧ va_OF "java/lang/String" "value" "[B" (.ref (z_zo E V sio b L xs (1001000 + i))) (z_zo E V sio b L xs (1000000 + i)) _ s s.heap ∧ va_T .byte (z_zo E V sio b L xs (1001000 + i)) _ _ _ s s.heap
    rw [e1, e2]
    exact ⟨h2, h3, h4, h5⟩
  · have hi' : i < 17 := hi
    have hj' : j < 17 := hj
    have e' : z_zo E V sio b L xs (1000000 + i) = z_zo E V sio b L xs (1000000 + j) := e
    rw [eo1 i (by omega), eo1 j (by omega), hEK i hi', hEK j hj'] at e'
    exact z_texts_inj hKV hi' hj' e'
  · rcases hsio with h | h
    · exact Or.inl h
    · refine Or.inr ?_
      show va_Z _ _ _ (.ref (z_zo E V sio b L xs 1005001)) _ s s.heap
      rw [eo6]
      exact h
  · simp only [List.mem_cons, List.not_mem_nil, or_false] at ht
    rcases ht with rfl | rfl | rfl
    · exact (hts (.arrayOver (.object "CoveredSigns$Covers")) (by decide +kernel))
    · exact (hts (.arrayOver (.array .int)) (by decide +kernel))
    · exact (hts (.arrayOver (.array .boolean)) (by decide +kernel))
  · show va_X (z_zo E V sio b L xs 1006000) (z_zo E V sio b L xs 1006001) (fun j => Int32.ofNat (z_zo E V sio b L xs (2000000 + j))) s s.heap
    rw [eo3, eo4, eo5]
    exact hX
theorem z_noTr {l : Launch} (h : l.flags = flags0) : l.stackTraces = false := by
  unfold Launch.stackTraces
  rw [h]
  decide +kernel
theorem whole_of (hm : ∀ (w : Nat → Int32) (nS : Nat), nS ≤ 3072 → ∃ x D', fl_loop w nS zFU 0 Mc_278.2 = some (1, x, D') ∧ x ≤ 3072) {p : Program} {e : Env} {s : State} {m : MethodId} {below : List Frame} {meth : Method} {c : Code} (l : Launch) (hflags : l.flags = flags0) {b L : Nat} {xs : Nat → Int32} (hL : L ≤ 3072) (C0 : lw_At p s m meth c b L xs) : W p l e room_1 s m #[Value.ref b] below meth c s.heap [] 0 0 (lw_Z below #[Value.ref b] s) (entryFrame m ([Value.ref b] : List Value).toArray 7) := by
  obtain ⟨hx, hb, hr, hml, hown, hts, hX, hbl, hlocks, hgv, hnm, htab⟩ := id C0
  obtain ⟨X, rfl, x2, x3, x4, x5, x6, hKK⟩ := z_world l hts hX hgv
  obtain ⟨x, D', h1, h2⟩ := hm xs L hL
  have hst := z_noTr hflags
  have hs : zScr X L xs := ⟨by rw [← zad_scr, x4, x2]; exact hbl, x5.symm, x6.symm⟩
  have R := l_start (d := 200) hst hs (by omega) h1 _ _ rfl p e room_1 s m #[Value.ref b] below meth c 601024 7293034
    ⟨hx, hb, hr, hml, hown, fun w hw => hts w (z_in_tbl hw), hlocks, hnm, hKK, htab, by decide, by decide, by decide, by decide, hst, by rw [x2]; exact Nat.le_refl _, by rw [x3]; exact fun q _ => rfl⟩
  have hl := lv_entry ([.ref b]) (n := 7) (Nat.le_of_ble_eq_true rfl)
  rw [lg_entry_eq]
  have c1 : zcc ((zK0, Mc_278.1.2.1, 1 + x), D') = zK0.length + (1 + x) := rfl
  have c2 : zsc ((zK0, Mc_278.1.2.1, 1 + x), D') = (zK0.map (fun q => q.2)).sum + 6 * (1 + x) := rfl
  have c3 : zK0.length = 207 := zKlen
  have c4 : (zK0.map (fun q => q.2)).sum = 44763 := by decide +kernel
  have c5 : zcc Mc_0 = 0 := rfl
  have c6 : zsc Mc_0 = 0 := rfl
  have go := R s.heap [] 0 0 _ ⟨⟨by rw [x2]; exact Nat.le_refl _, fun _ => by rw [x2]; rfl, Nat.zero_le _, fun q hq => by rw [x3], fun k kd hk => by simp [Mc_0] at hk⟩, Nat.le_refl _, fun z hz => by (cases hz), (show lv_has _ 7 [(0, zrv X (.ref 1006000))] by rw [show zrv X (.ref 1006000) = .ref b from by rw [← x4]; rfl]; exact hl), by rw [c1, c5, c3]; omega, by rw [c2, c6, c4]; omega, by rw [c5]; exact Nat.zero_le _, by rw [c6]; exact Nat.zero_le _⟩
  intro T hT Xs
  obtain ⟨t, a1, o, b1, b2, b3⟩ := go T hT Xs
  refine ⟨t, a1, o, b1, b2, ?_⟩
  rcases b3 with ⟨⟨⟨v, g1, g2⟩, -⟩, L', ⟨g3, g4, g5⟩, g6⟩ | ⟨q, -, E, ce, L2, g1, -⟩
  · cases g1
    refine ⟨g2, g3, g4, g5.weaken (fun y hy hlt => ?_) (Nat.le_refl _) (Nat.le_refl _)⟩
    have g7 : zb X ≤ y.base := g6 y hy
    rw [x2] at g7
    exact absurd hlt (Nat.not_lt.mpr g7)
  · exact absurd g1.1 (by simp)
